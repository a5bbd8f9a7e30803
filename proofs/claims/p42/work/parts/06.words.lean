/-! THE TABLES' WORDS, by their places in lw_tbl: printed by wip/p42/words42.py -/
def jv_more : List Cond := [.selects RJ4 yJ5_ensureCapacityInternal_d00df yJ5_ensureCapacityInternal_d00df, .selects RJ4 yJ5_newCapacity_0f7a4 yJ5_newCapacity_0f7a4, .selects RJ4 yJ5_inflateIfNeededFor_a7421 yJ5_inflateIfNeededFor_a7421, .selects RJ4 yJ5_putStringAt_47b60 yJ5_putStringAt_47b60]
/-- the words that every method here is given -/
def jv_T : List Cond := (jv_more ++ lw_tbl).filter goodWord
/-- words alike: a method's bytes are compared as a list (in an array each place costs its number) -/
theorem jv_bytes {a b : ByteArray} (h : a.data.toList = b.data.toList) : a = b := by
  cases a
  cases b
  exact congrArg ByteArray.mk (Array.toList_inj.mp h)
def jv_eqw (u w : Cond) : Bool := match u with
  | .code n b m r => (match w with
    | .code n' b' m' r' => decide (n = n') && (decide (b.data.toList = b'.data.toList) && (decide (m = m') && decide (r = r')))
    | _ => false)
  | _ => decide (u = w)
theorem jv_eqw_ok {u w : Cond} (h : jv_eqw u w = true) : u = w := by
  unfold jv_eqw at h
  split at h
  · split at h
    · simp only [Bool.and_eq_true, decide_eq_true_eq] at h
      obtain ⟨h1, h2, h3, h4⟩ := h
      have h2 := jv_bytes h2
      subst h1 h2 h3 h4
      rfl
    · cases h
  · exact of_decide_eq_true h
/-- the tables one by one: a word by its table and its place there -/
def jv_tab (k : Nat) : List Cond := match k with
  | 0 => k2_sels lw_privs
  | 1 => tables_1_1
  | 2 => tables_1_2
  | 3 => tables_1_3
  | 4 => tables_1_4
  | 5 => tables_1_5
  | 6 => tables_1_6
  | _ => []
theorem jv_tab_in {k : Nat} {w : Cond} (h : w ∈ jv_tab k) : w ∈ lw_tbl := by
  unfold lw_tbl tables_1
  simp only [List.mem_append]
  match k, h with
  | 0, h => exact Or.inl h
  | 1, h => exact Or.inr (Or.inl h)
  | 2, h => exact Or.inr (Or.inr (Or.inl h))
  | 3, h => exact Or.inr (Or.inr (Or.inr (Or.inl h)))
  | 4, h => exact Or.inr (Or.inr (Or.inr (Or.inr (Or.inl h))))
  | 5, h => exact Or.inr (Or.inr (Or.inr (Or.inr (Or.inr (Or.inl h)))))
  | 6, h => exact Or.inr (Or.inr (Or.inr (Or.inr (Or.inr (Or.inr (h))))))
  | k + 7, h => cases h
def jv_inw (i : Nat) (w : Cond) : Bool := match (jv_tab (i / 1024))[i % 1024]? with
  | some u => jv_eqw u w
  | none => false
theorem jv_inw_ok {i : Nat} {w : Cond} (h : jv_inw i w = true) : w ∈ lw_tbl := by
  unfold jv_inw at h
  split at h
  · rename_i u e
    have e2 := jv_eqw_ok h
    subst e2
    exact jv_tab_in (List.mem_of_getElem? e)
  · cases h
def jv_in (i : Nat) (w : Cond) : Bool := jv_inw i w && goodWord w
theorem jv_in_ok {i : Nat} {w : Cond} (h : jv_in i w = true) : w ∈ jv_T := by
  simp only [jv_in, Bool.and_eq_true] at h
  exact List.mem_filter.mpr ⟨List.mem_append_right _ (jv_inw_ok h.1), h.2⟩
theorem jv_as_mem {α : Type} {n : Nat} {v : α} : ∀ (l : List (Nat × α)), jv_as l n = some v → (n, v) ∈ l
  | [], h => by cases h
  | a :: l, h => by
    unfold jv_as at h
    split at h
    · rename_i e
      cases h
      rw [← e]
      exact List.mem_cons_self
    · exact List.mem_cons_of_mem _ (jv_as_mem l h)
def jv_byt : List (List Int32) := [[116, 114, 97, 105, 110], [102, 105, 114, 115, 116], [115, 101, 97, 116], [116, 105, 99, 107, 101, 116], [102, 97, 109, 105, 108, 121], [119, 105, 110, 100, 111, 119], [97, 104, 101, 97, 100], [114, 111, 119], [115, 119, 101, 101, 116, 115], [115, 116, 111, 112], [116, 114, 97, 105, 110, 32], [32, 102, 105, 114, 115, 116, 32], [115, 101, 97, 116, 32], [32, 116, 105, 99, 107, 101, 116], [32, 102, 97, 109, 105, 108, 121, 32], [32, 119, 105, 110, 100, 111, 119, 32], [32, 97, 104, 101, 97, 100, 32], [32, 114, 111, 119, 32], [32, 115, 119, 101, 101, 116, 115, 32], [32, 115, 116, 111, 112, 32], [116, 114, 97, 105, 110, 32], [32, 102, 105, 114, 115, 116, 32], [97, 110, 110], [98, 111], [99, 121], [100, 97, 110], [101, 118, 101], [115, 101, 97, 116, 32], [32, 116, 105, 99, 107, 101, 116], [], [32, 102, 97, 109, 105, 108, 121, 32], [32, 119, 105, 110, 100, 111, 119, 32], [32, 97, 104, 101, 97, 100, 32], [32, 114, 111, 119, 32], [32, 115, 119, 101, 101, 116, 115, 32], [32, 115, 116, 111, 112, 32], [122, 111, 101]]
def jv_lens : List Nat := [5, 5, 4, 6, 6, 6, 5, 3, 6, 4, 6, 7, 5, 7, 8, 8, 7, 5, 8, 6, 6, 7, 3, 2, 2, 3, 3, 5, 7, 0, 8, 8, 7, 5, 8, 6, 3]
/-- which text lies at a place: 1000001 + its number -/
def jv_tix (a : Nat) : Option Nat := (List.range 37).find? (fun i => Nat.beq a (1000001 + i))
theorem jv_tix_eq {a i : Nat} (h : jv_tix a = some i) : i < 37 ∧ a = 1000001 + i := by
  unfold jv_tix at h
  exact ⟨List.mem_range.mp (List.mem_of_find?_eq_some h), Nat.eq_of_beq_eq_true (List.find?_some (p := fun i => Nat.beq a (1000001 + i)) h)⟩
def jv_mo (i : Nat) (w : Cond) : Bool := match jv_more[i]? with
  | some u => decide (u = w) && goodWord w
  | none => false
theorem jv_mo_ok {i : Nat} {w : Cond} (h : jv_mo i w = true) : w ∈ jv_T := by
  unfold jv_mo at h
  split at h
  · rename_i u e
    simp only [Bool.and_eq_true, decide_eq_true_eq] at h
    obtain ⟨h1, h2⟩ := h
    subst h1
    exact List.mem_filter.mpr ⟨List.mem_append_left _ (List.mem_of_getElem? e), h2⟩
  · cases h
def jv_hm0 : List (List Nat) := [[1201, 1200, 0, 1031], [2122, 2120, 2121, 1031], [3079, 3077, 3078, 1031], [3164, 3163, 22, 1031], [3169, 3168, 23, 1031], [3160, 3158, 3159, 1031], [1201, 1200, 0, 1031], [2060, 2059, 0, 1032], [3083, 3081, 3082, 1032], [3152, 3151, 21, 1032], [3148, 3146, 3147, 1032], [3177, 3175, 3176, 1032], [1056, 1055, 0, 1026], [2137, 2136, 0, 1026], [2126, 2125, 0, 1026], [2130, 2129, 1, 1026]]
def jv_hm1 : List (List Nat) := [[2211, 2210, 7, 1026], [2146, 2145, 3, 1026], [2256, 2255, 13, 1026], [2252, 2251, 12, 1026], [2248, 2247, 11, 1026], [2206, 2205, 6, 1026], [2198, 2197, 4, 1026], [2142, 2141, 2, 1026], [2267, 2266, 14, 1026], [2202, 2201, 5, 1026], [2271, 2270, 15, 1026], [2224, 2223, 9, 1026], [2244, 2243, 10, 1026], [6155, 6153, 6154, 1026], [6162, 6160, 6161, 1026], [2114, 2112, 2113, 1026]]
def jv_hm2 : List (List Nat) := [[2215, 2214, 8, 1026], [1174, 1173, 0, 1029], [3248, 3246, 3247, 1029], [3270, 3269, 28, 1029], [3281, 3280, 29, 1029], [3286, 3285, 30, 1029], [3263, 3262, 27, 1029], [3253, 3252, 25, 1029], [3259, 3258, 26, 1029], [1062, 1061, 0, 1027], [3304, 3302, 3303, 1027], [3308, 3306, 3307, 1027], [4096, 3311, 31, 1027], [2134, 2132, 2133, 1027], [1192, 1191, 0, 1030], [2118, 2116, 2117, 1030]]
def jv_hm3 : List (List Nat) := [[3075, 3073, 3074, 1030], [2236, 2234, 2235, 1030], [2240, 2238, 2239, 1030], [3194, 3192, 3193, 1030], [5170, 5168, 5169, 1030], [3210, 3208, 3209, 1030], [6171, 6169, 6170, 1030], [2232, 2230, 2231, 1030], [2228, 2226, 2227, 1030], [2275, 2273, 2274, 1030], [3134, 3132, 3133, 1030], [5355, 5353, 5354, 1030], [3120, 3119, 18, 1030], [2287, 2286, 16, 1030], [2279, 2277, 2278, 1030], [5347, 5346, 34, 1030]]
def jv_hm4 : List (List Nat) := [[5343, 5341, 5342, 1030], [3112, 3110, 3111, 1030], [3108, 3106, 3107, 1030], [3116, 3114, 3115, 1030], [3126, 3125, 0, 1030], [3104, 3102, 3103, 1030], [3186, 3184, 3185, 1030], [3220, 3218, 3219, 1030], [5188, 5186, 5187, 1030], [5223, 5222, 32, 1030], [5219, 5217, 5218, 1030], [5227, 5225, 5226, 1030], [5231, 5229, 5230, 1030], [5235, 5233, 5234, 1030], [3202, 3200, 3201, 1030], [5207, 5205, 5206, 1030]]
def jv_hm5 : List (List Nat) := [[5211, 5209, 5210, 1030], [3198, 3196, 3197, 1030], [3190, 3188, 3189, 1030], [3143, 3142, 20, 1030], [3139, 3138, 19, 1030], [3236, 3235, 24, 1030], [5263, 5261, 5262, 1030], [5267, 5265, 5266, 1030], [3130, 3128, 3129, 1030], [5282, 5280, 5281, 1030], [5197, 5195, 5196, 1030], [5303, 5301, 5302, 1030], [3232, 3230, 3231, 1030], [3240, 3238, 3239, 1030], [5325, 5323, 5324, 1030], [3228, 3226, 3227, 1030]]
def jv_hm6 : List (List Nat) := [[5311, 5309, 5310, 1030], [5291, 5289, 5290, 1030], [3100, 3098, 3099, 1030], [1201, 1200, 0, 1031], [1201, 1200, 0, 1031], [1078, 1077, 0, 1028], [2219, 2217, 2218, 1028], [2283, 2281, 2282, 1028], [6175, 6173, 6174, 1028], [6179, 6177, 6178, 1028], [3275, 3273, 3274, 1028], [1048, 1047, 0, 1025], [3300, 3298, 3299, 1025], [4100, 4098, 4099, 1025], [2110, 2108, 2109, 1025], [3088, 3086, 3087, 1025]]
def jv_hm7 : List (List Nat) := [[6151, 6149, 6150, 1025], [6167, 6165, 6166, 1025], [5351, 5349, 5350, 1025], [5275, 5273, 5274, 1025], [5299, 5297, 5298, 1025], [5319, 5317, 5318, 1025], [3092, 3090, 3091, 1025], [5339, 5337, 5338, 1025], [6184, 6182, 6183, 1025], [6188, 6186, 6187, 1025], [3173, 3171, 3172, 1025], [3181, 3179, 3180, 1025], [3206, 3204, 3205, 1025], [1201, 1200, 0, 1031], [5166, 5164, 5165, 1025], [5215, 5213, 5214, 1025]]
def jv_hm8 : List (List Nat) := [[5202, 5200, 5201, 1025], [5184, 5182, 5183, 1025], [5250, 5248, 5249, 1025], [5193, 5191, 5192, 1025], [5179, 5177, 5178, 1025], [5259, 5257, 5258, 1025], [5271, 5269, 5270, 1025], [5307, 5305, 5306, 1025], [5287, 5285, 5286, 1025], [3224, 3222, 3223, 1025], [5332, 5330, 5331, 1025], [5359, 5357, 5358, 1025], [1201, 1200, 0, 1031], [5239, 5237, 5238, 1025], [5243, 5241, 5242, 1025], [1201, 1200, 0, 1031]]
def jv_hm9 : List (List Nat) := [[1201, 1200, 0, 1031], [3244, 3242, 3243, 1025], [5153, 5151, 5152, 1025], [3213, 3212, 0, 1025], [5278, 5277, 0, 1025], [5254, 5253, 33, 1025], [3096, 3095, 17, 1025], [4308, 4307, 0, 1036], [2150, 2148, 2149, 1036], [2160, 2158, 2159, 1036], [4228, 4226, 4227, 1036], [4311, 4310, 0, 1036], [2154, 2152, 2153, 1036], [2164, 2162, 2163, 1036], [5146, 5145, 0, 1035], [4110, 4109, 0, 1035]]
def jv_hm10 : List (List Nat) := [[4135, 4133, 4134, 1035], [4273, 4271, 4272, 1035], [4246, 4244, 4245, 1035], [4303, 4301, 4302, 1035], [4131, 4130, 0, 1035], [4323, 4322, 0, 1035], [5149, 5148, 0, 1034], [4113, 4112, 0, 1034], [4146, 4145, 8000, 1034], [4150, 4149, 8001, 1034], [4138, 4127, 0, 1034], [4276, 4275, 0, 1034], [4249, 4248, 0, 1034], [4181, 4178, 4180, 1034], [4205, 4204, 8002, 1034], [4201, 4200, 8003, 1034]]
def jv_hm11 : List (List Nat) := [[4317, 4314, 4316, 1034], [4325, 4319, 0, 1034], [4255, 4254, 0, 1043], [4252, 4251, 0, 1043], [4156, 4155, 0, 1033], [4173, 4172, 0, 1033], [2167, 2166, 0, 1042], [4279, 4278, 0, 1042], [4163, 4162, 0, 1039], [4329, 4328, 0, 1039], [4332, 4331, 0, 1039], [4335, 4334, 0, 1039], [4153, 4152, 0, 1038], [3294, 3293, 0, 1024], [4104, 4103, 0, 1024], [5143, 5142, 0, 1024]]
def jv_hm12 : List (List Nat) := [[5156, 5155, 0, 1024], [5162, 5161, 0, 1024], [5246, 5245, 0, 1024], [5295, 5294, 0, 1024], [5315, 5314, 0, 1024], [5328, 5327, 0, 1024], [5335, 5334, 0, 1024], [6146, 6145, 0, 1024], [1201, 1200, 0, 1031], [1201, 1200, 0, 1031], [1201, 1200, 0, 1031], [1201, 1200, 0, 1031], [1201, 1200, 0, 1031], [1201, 1200, 0, 1031], [1201, 1200, 0, 1031], [1201, 1200, 0, 1031]]
def jv_hm13 : List (List Nat) := [[1201, 1200, 0, 1031], [1201, 1200, 0, 1031], [1201, 1200, 0, 1031], [1201, 1200, 0, 1031], [1201, 1200, 0, 1031], [1201, 1200, 0, 1031], [1201, 1200, 0, 1031], [1201, 1200, 0, 1031], [1201, 1200, 0, 1031], [1201, 1200, 0, 1031], [1201, 1200, 0, 1031], [1201, 1200, 0, 1031], [1201, 1200, 0, 1031], [1201, 1200, 0, 1031], [1201, 1200, 0, 1031], [1201, 1200, 0, 1031]]
def jv_hm14 : List (List Nat) := [[1201, 1200, 0, 1031], [1201, 1200, 0, 1031], [1201, 1200, 0, 1031], [1201, 1200, 0, 1031], [1201, 1200, 0, 1031], [1201, 1200, 0, 1031], [1201, 1200, 0, 1031], [1201, 1200, 0, 1031], [1201, 1200, 0, 1031], [1201, 1200, 0, 1031], [1201, 1200, 0, 1031], [1201, 1200, 0, 1031], [1201, 1200, 0, 1031], [1201, 1200, 0, 1031], [1201, 1200, 0, 1031], [1201, 1200, 0, 1031]]
def jv_hm15 : List (List Nat) := [[1201, 1200, 0, 1031], [1201, 1200, 0, 1031], [1201, 1200, 0, 1031], [1201, 1200, 0, 1031], [1201, 1200, 0, 1031], [1201, 1200, 0, 1031], [1201, 1200, 0, 1031], [1201, 1200, 0, 1031], [1201, 1200, 0, 1031], [1201, 1200, 0, 1031], [1201, 1200, 0, 1031], [1201, 1200, 0, 1031], [1201, 1200, 0, 1031], [1201, 1200, 0, 1031], [1201, 1200, 0, 1031], [1201, 1200, 0, 1031]]
def jv_hm16 : List (List Nat) := [[1201, 1200, 0, 1031], [1201, 1200, 0, 1031], [1201, 1200, 0, 1031], [1201, 1200, 0, 1031], [1201, 1200, 0, 1031], [1201, 1200, 0, 1031], [1201, 1200, 0, 1031], [1201, 1200, 0, 1031], [1201, 1200, 0, 1031], [1201, 1200, 0, 1031], [1201, 1200, 0, 1031], [1201, 1200, 0, 1031], [1201, 1200, 0, 1031], [3155, 3154, 0, 1033], [3123, 3122, 0, 1033]]
def jv_hms : List (List (List Nat)) := [jv_hm0, jv_hm1, jv_hm2, jv_hm3, jv_hm4, jv_hm5, jv_hm6, jv_hm7, jv_hm8, jv_hm9, jv_hm10, jv_hm11, jv_hm12, jv_hm13, jv_hm14, jv_hm15, jv_hm16]
def jv_hm (y : Nat) : Option (List Nat) := match jv_nth jv_hms (y / 16) with
  | none => none
  | some a => jv_nth a (y % 16)
def jv_ckm (y : Nat) : Bool := match jv_inf y, jv_hm y with
  | some (ow, kd, na, mL, _, _), some [a, b, c, d] =>
    jv_in a (.code (jv_ym y).1 (jv_ym y).2.1 mL (jv_ym y).2.2) && jv_in d (.initialized (jv_ym y).1.cls) && plainFor (jv_ym y).1 &&
    decide ((jv_ym y).1.cls = jv_own ow ∧ ((jv_ym y).1.cls ≠ "java/lang/invoke/MethodHandle" ∧ (jv_ym y).1.cls ≠ "java/lang/invoke/VarHandle" ∧ (parseMethodDescriptor (jv_ym y).1.desc).map (fun d => d.parameters.length) = some (if kd = 0 then na else na - 1)) ∧ na ≤ mL ∧ (kd ≠ 0 → 1 ≤ na)) &&
    (match kd with
     | 0 => jv_in b (.static (jv_ym y).1)
     | 1 => jv_in b (.instanceMethod (jv_ym y).1) && (jv_in c (.selects (jv_own (jv_rc ow)) (jv_ym y).1 (jv_ym y).1) || jv_mo (c - 8000) (.selects (jv_own (jv_rc ow)) (jv_ym y).1 (jv_ym y).1))
     | 2 => jv_in b (.instanceMethod (jv_ym y).1) && decide ((jv_ym y).1.name = "<init>" ∧ (jv_ym y).2.2 = none)
     | _ => jv_in b (.instanceMethod (jv_ym y).1) && decide ((jv_ym y).1.name ≠ "<init>" ∧ (kd = 3 ∨ kd = 5)))
  | _, _ => false
theorem jv_mg0 : ∀ k, k < 16 → jv_ckm (0 + k) = true := by decide +kernel
theorem jv_mg1 : ∀ k, k < 16 → jv_ckm (16 + k) = true := by decide +kernel
theorem jv_mg2 : ∀ k, k < 16 → jv_ckm (32 + k) = true := by decide +kernel
theorem jv_mg3 : ∀ k, k < 16 → jv_ckm (48 + k) = true := by decide +kernel
theorem jv_mg4 : ∀ k, k < 16 → jv_ckm (64 + k) = true := by decide +kernel
theorem jv_mg5 : ∀ k, k < 16 → jv_ckm (80 + k) = true := by decide +kernel
theorem jv_mg6 : ∀ k, k < 16 → jv_ckm (96 + k) = true := by decide +kernel
theorem jv_mg7 : ∀ k, k < 16 → jv_ckm (112 + k) = true := by decide +kernel
theorem jv_mg8 : ∀ k, k < 16 → jv_ckm (128 + k) = true := by decide +kernel
theorem jv_mg9 : ∀ k, k < 16 → jv_ckm (144 + k) = true := by decide +kernel
theorem jv_mg10 : ∀ k, k < 16 → jv_ckm (160 + k) = true := by decide +kernel
theorem jv_mg11 : ∀ k, k < 16 → jv_ckm (176 + k) = true := by decide +kernel
theorem jv_mg12 : ∀ k, k < 16 → jv_ckm (192 + k) = true := by decide +kernel
theorem jv_mg13 : ∀ k, k < 16 → jv_ckm (208 + k) = true := by decide +kernel
theorem jv_mg14 : ∀ k, k < 16 → jv_ckm (224 + k) = true := by decide +kernel
theorem jv_mg15 : ∀ k, k < 16 → jv_ckm (240 + k) = true := by decide +kernel
theorem jv_mg16 : ∀ k, k < 15 → jv_ckm (256 + k) = true := by decide +kernel
theorem jv_ckm_ok (y : Nat) (h : y < 271) : jv_ckm y = true := by
  by_cases h0 : y < 16
  · have := jv_mg0 (y - 0) (by omega); rwa [show 0 + (y - 0) = y by omega] at this
  by_cases h1 : y < 32
  · have := jv_mg1 (y - 16) (by omega); rwa [show 16 + (y - 16) = y by omega] at this
  by_cases h2 : y < 48
  · have := jv_mg2 (y - 32) (by omega); rwa [show 32 + (y - 32) = y by omega] at this
  by_cases h3 : y < 64
  · have := jv_mg3 (y - 48) (by omega); rwa [show 48 + (y - 48) = y by omega] at this
  by_cases h4 : y < 80
  · have := jv_mg4 (y - 64) (by omega); rwa [show 64 + (y - 64) = y by omega] at this
  by_cases h5 : y < 96
  · have := jv_mg5 (y - 80) (by omega); rwa [show 80 + (y - 80) = y by omega] at this
  by_cases h6 : y < 112
  · have := jv_mg6 (y - 96) (by omega); rwa [show 96 + (y - 96) = y by omega] at this
  by_cases h7 : y < 128
  · have := jv_mg7 (y - 112) (by omega); rwa [show 112 + (y - 112) = y by omega] at this
  by_cases h8 : y < 144
  · have := jv_mg8 (y - 128) (by omega); rwa [show 128 + (y - 128) = y by omega] at this
  by_cases h9 : y < 160
  · have := jv_mg9 (y - 144) (by omega); rwa [show 144 + (y - 144) = y by omega] at this
  by_cases h10 : y < 176
  · have := jv_mg10 (y - 160) (by omega); rwa [show 160 + (y - 160) = y by omega] at this
  by_cases h11 : y < 192
  · have := jv_mg11 (y - 176) (by omega); rwa [show 176 + (y - 176) = y by omega] at this
  by_cases h12 : y < 208
  · have := jv_mg12 (y - 192) (by omega); rwa [show 192 + (y - 192) = y by omega] at this
  by_cases h13 : y < 224
  · have := jv_mg13 (y - 208) (by omega); rwa [show 208 + (y - 208) = y by omega] at this
  by_cases h14 : y < 240
  · have := jv_mg14 (y - 224) (by omega); rwa [show 224 + (y - 224) = y by omega] at this
  by_cases h15 : y < 256
  · have := jv_mg15 (y - 240) (by omega); rwa [show 240 + (y - 240) = y by omega] at this
  by_cases h16 : y < 271
  · have := jv_mg16 (y - 256) (by omega); rwa [show 256 + (y - 256) = y by omega] at this
  omega
def jv_hfs : List (List (Nat × Nat)) := [[(11, 1203), (15, 1204), (19, 1205)],
  [(11, 2064), (16, 2066), (20, 2065)],
  [(12, 1149), (21, 1151), (25, 1156), (29, 1154), (36, 1152), (39, 1067), (49, 1155), (129, 1222), (132, 1226), (143, 1087), (148, 1082), (154, 1092), (156, 1097), (161, 1102), (163, 1107), (165, 1112), (167, 1117), (170, 1121), (172, 1127)],
  [(9, 1176), (15, 1178), (18, 1179), (27, 1220), (38, 1224), (44, 1230), (57, 1084), (66, 1089), (73, 1094), (82, 1099), (91, 1104), (94, 1109), (97, 1114), (104, 1119), (109, 1124)],
  [(9, 1064), (13, 1065)],
  [(11, 1214), (18, 1215), (22, 1216), (29, 1217), (33, 1219), (37, 1223), (43, 1227), (46, 1229), (49, 1232), (52, 1234), (55, 1236), (58, 1238), (61, 1240), (83, 1086), (90, 1091), (97, 1096), (108, 1126), (119, 1116), (122, 1111), (130, 1101), (137, 1106), (159, 1122)],
  [(9, 1080), (15, 1083), (18, 1088), (21, 1093), (24, 1098), (27, 1103), (30, 1108), (33, 1113), (36, 1118), (39, 1123)],
  [(10, 2077), (16, 1150), (20, 2076), (24, 2078), (31, 2079), (35, 2080), (41, 2081), (45, 2082), (49, 2083), (56, 2084), (60, 2085), (74, 1066), (85, 1153), (95, 1231), (122, 1081), (125, 1085), (128, 1090), (131, 1095), (134, 1120), (137, 1125), (144, 1218), (172, 1221), (175, 1225), (225, 1233), (228, 1228), (234, 2067), (247, 1235), (250, 1237), (253, 1239), (256, 1241), (265, 1206), (268, 1100), (271, 1105), (274, 1110), (277, 1115), (342, 1177), (343, 1180)],
  [(9, 5130), (15, 5131), (1048, 4233)],
  [],
  [],
  [(15, 4231), (22, 4232), (79, 4234)],
  [],
  [],
  [],
  [],
  [],
  []]
def jv_hf (ow i : Nat) : Nat := ((jv_nth jv_hfs ow).bind (fun a => jv_as a i)).getD 0
def jv_hcs : List (List (Nat × Nat)) := [[(3, 1202), (22, 3165), (28, 3161), (31, 3166)],
  [(1, 2061), (15, 2063), (23, 3153), (29, 3149), (33, 3156)],
  [(3, 1057), (11, 1060), (20, 1076), (33, 2127), (42, 2131), (46, 2135), (52, 2147), (57, 2157), (63, 2143), (85, 2253), (89, 2195), (93, 2203), (96, 2208), (100, 2199), (104, 2225), (110, 2237), (113, 2245), (116, 2249), (119, 2123), (122, 2115), (125, 2139), (134, 2212), (138, 2216), (139, 2221), (145, 2241), (151, 2264), (158, 2268), (174, 2272), (178, 2276)],
  [(3, 1175), (23, 3250), (32, 3260), (41, 3256), (47, 3266), (51, 3267), (62, 3272), (76, 3278), (85, 3283), (112, 3287), (118, 3254), (123, 3255)],
  [(1, 1063), (17, 3309)],
  [(3, 1193), (17, 1196), (28, 1199), (40, 2119), (64, 2233), (68, 2280), (72, 3076), (75, 5171), (79, 3211), (86, 2229), (93, 3135), (100, 2284), (104, 5283), (111, 5344), (115, 3113), (125, 3121), (133, 3124), (140, 3109), (144, 3117), (147, 3105), (150, 5189), (153, 5220), (156, 3199), (162, 3140), (166, 3136), (169, 3101), (172, 3131), (175, 5198), (178, 3233), (181, 3229), (185, 3237), (188, 5312), (191, 3127), (194, 5292)],
  [(3, 1079)],
  [(1, 1049), (9, 1054), (23, 1172), (30, 1190), (40, 2054), (55, 2058), (64, 3301), (70, 3305), (77, 4101), (81, 2111), (88, 3072), (92, 3080), (98, 5167), (102, 6152), (105, 6156), (108, 6157), (112, 3145), (115, 6158), (118, 6159), (140, 6163), (150, 3157), (154, 3207), (157, 6168), (160, 3214), (164, 6172), (168, 6176), (178, 5352), (181, 5251), (184, 5255), (188, 5276), (191, 5260), (195, 5279), (198, 5194), (201, 5180), (204, 3215), (207, 5300), (210, 5320), (213, 5321), (216, 5322), (219, 3093), (222, 3144), (231, 5340), (235, 3174), (238, 3182), (241, 3183), (244, 3187), (259, 3191), (262, 3195), (280, 3216), (284, 3217), (290, 5172), (293, 5216), (296, 5224), (299, 5228), (302, 5232), (305, 5203), (308, 5204), (311, 5208), (314, 5185), (317, 5264), (320, 5308), (323, 5288), (326, 3225), (338, 3245), (346, 3097)],
  [(1, 4312), (54, 4327), (212, 4229), (335, 2151), (489, 4309), (492, 2161), (495, 2165), (549, 4318), (552, 4313), (1047, 4326)],
  [(1, 5147), (7, 4111), (23, 4132), (29, 4136), (50, 4274), (53, 4247), (137, 4306), (343, 4324)],
  [(7, 3295), (13, 3296), (17, 3297), (23, 4097), (31, 4108), (34, 4243), (39, 4269), (42, 4270), (74, 4300), (78, 5144), (79, 3241), (82, 5150), (89, 3178), (94, 3203), (98, 5163), (103, 5175), (108, 5176), (111, 5181), (114, 5190), (117, 5199), (120, 5212), (123, 5236), (127, 5240), (131, 5247), (135, 5256), (138, 5268), (141, 5272), (144, 3170), (147, 5284), (150, 5296), (153, 5304), (156, 5316), (159, 3221), (162, 5154), (168, 5329), (171, 3089), (174, 5336), (177, 5348), (180, 5356), (185, 3292), (189, 6148), (192, 6164), (195, 6180), (198, 6181), (201, 6185), (205, 1046), (206, 5160), (210, 4102), (214, 2107), (217, 3085), (220, 6144), (224, 5244), (227, 5293), (231, 5313), (233, 5326), (236, 5333), (239, 5141)],
  [(3, 4114), (32, 4115), (40, 4118), (43, 4126), (83, 4177), (100, 4143), (104, 4147), (108, 4161), (114, 4151), (191, 4277), (208, 4198), (245, 4250), (248, 4253), (397, 4202), (399, 4225)],
  [],
  [],
  [(9, 2168)],
  [(150, 4174), (304, 4171), (310, 4164), (339, 4330), (343, 4333)],
  [(194, 4154)],
  []]
def jv_hc (ow i : Nat) : Nat := ((jv_nth jv_hcs ow).bind (fun a => jv_as a i)).getD 0
def jv_hns : List (List (Nat × Nat)) := [[],
  [(9, 2062)],
  [(9, 1058), (18, 1074)],
  [],
  [],
  [(9, 1194), (26, 1197)],
  [],
  [(7, 1052), (21, 1170), (28, 1188), (38, 2053), (53, 2056)],
  [],
  [(18, 4304)],
  [(8, 4283), (18, 1044), (27, 4105)],
  [],
  [],
  [],
  [],
  [],
  [],
  []]
def jv_hn (ow i : Nat) : Nat := ((jv_nth jv_hns ow).bind (fun a => jv_as a i)).getD 0
def jv_hls : List (List (Nat × Nat)) := [[],
  [],
  [(61, 2138), (67, 2207), (69, 2220), (71, 2257), (73, 2258), (75, 2259), (77, 2260), (79, 2261), (81, 2262), (83, 2263)],
  [(21, 3249), (36, 3265), (55, 3271), (69, 3276), (71, 3277), (80, 3282), (89, 3288), (100, 3289), (102, 3290), (107, 3291), (117, 3264)],
  [],
  [],
  [],
  [],
  [],
  [],
  [(29, 4107), (37, 4268), (45, 4285), (47, 4286), (49, 4287), (51, 4288), (53, 4289), (55, 4290), (56, 4291), (58, 4292), (60, 4293), (62, 4294), (64, 4295), (66, 4296), (68, 4297), (70, 4298), (72, 4299), (183, 6147), (204, 6189)],
  [(38, 4116), (39, 4117)],
  [],
  [],
  [],
  [],
  [(200, 4157)],
  []]
def jv_hl (ow i : Nat) : Nat := ((jv_nth jv_hls ow).bind (fun a => jv_as a i)).getD 0
/-- the classes -/
theorem jv_cls_ok : ∀ c, c < 10 → jv_Cl[c]? = some (jv_own c, jv_fT c, jv_fn c) := by
  intro c h
  match c, h with
  | 0, _ => rfl
  | 1, _ => rfl
  | 2, _ => rfl
  | 3, _ => rfl
  | 4, _ => rfl
  | 5, _ => rfl
  | 6, _ => rfl
  | 7, _ => rfl
  | 8, _ => rfl
  | 9, _ => rfl
  | c + 10, h => omega
/-- links to private members of nest mates: no words of the tables, carried beside them -/
def jv_nests : List Cond := [.methodLinkNest (jv_own 2) 20 (jv_ym 101).1 "SeatSwap", .methodLinkNest (jv_own 5) 17 (jv_ym 101).1 "SeatSwap", .methodLinkNest (jv_own 5) 79 (jv_ym 147).1 "SeatSwap", .methodLinkNest (jv_own 7) 23 (jv_ym 33).1 "SeatSwap", .methodLinkNest (jv_own 7) 40 (jv_ym 101).1 "SeatSwap"]
theorem jv_nests_in : ∀ w ∈ jv_nests, w ∈ lw_tbl := by
  intro w hw
  have h : jv_nests = ([87, 207, 654, 183, 281] : List Nat).filterMap (fun i => lw_tbl[i]?) := by decide +kernel
  rw [h] at hw
  obtain ⟨i, -, hi⟩ := List.mem_filterMap.mp hw
  exact List.mem_of_getElem? hi
def jv_ckf1 (ow : Nat) (q : Nat × Nat × Nat) : Bool := decide (q.2.1 < 10 ∧ q.2.2 < jv_fn q.2.1) && jv_in (jv_hf ow q.1) (.fieldLink (jv_own ow) q.1 (jv_fT q.2.1 q.2.2).1 (jv_fT q.2.1 q.2.2).2.1 (jv_fT q.2.1 q.2.2).2.2.1)
/-- links that name another method than the one that runs: AbstractStringBuilder's, overridden by StringBuilder's -/
def jv_alt (ow i : Nat) : Option MethodName := if ow = 8 ∧ i = 549 then some yJ5_length_8abf5 else
  if ow = 11 ∧ i = 43 then some yJ5_append_cf1ce else
  none
def jv_sam : List (String × Nat) := []
def jv_ckc1 (ow : Nat) (q : Nat × Nat × Nat × Nat) : Bool :=
  if q.2.1 = 900 then jv_in (jv_hc ow q.1) (.methodLink (jv_own ow) q.1 Lib.objectInit)
  else if q.2.1 = 903 then jv_in (jv_hc ow q.1) (.methodLink (jv_own ow) q.1 yJ0_checkIndex_df160)
  else if q.2.1 = 904 then jv_in (jv_hc ow q.1) (.methodLink (jv_own ow) q.1 arraycopyName)
  else if q.2.1 = 905 then jv_in (jv_hc ow q.1) (.methodLink (jv_own ow) q.1 ⟨"[B", "clone", "()Ljava/lang/Object;"⟩)
  else match jv_inf q.2.1 with
  | some (_, kd, na, _) => decide (na = q.2.2.1 ∧ q.2.1 < 271) && (if q.2.2.2 = 0 then (match jv_alt ow q.1 with
    | none => decide (kd ≠ 5) && jv_in (jv_hc ow q.1) (.methodLink (jv_own ow) q.1 (jv_ym q.2.1).1)
    | some x => decide (kd = 5) && jv_in (jv_hc ow q.1) (.methodLink (jv_own ow) q.1 x)) else decide (kd ≠ 5) && decide (Cond.methodLinkNest (jv_own ow) q.1 (jv_ym q.2.1).1 "SeatSwap" ∈ jv_nests))
  | none => false
def jv_ckn1 (ow : Nat) (q : Nat × Nat) : Bool := decide (q.2 < 10) && jv_in (jv_hn ow q.1) (.classLink (jv_own ow) q.1 (jv_own q.2))
def jv_ckl1 (ow : Nat) (q : Nat × Value) : Bool := match q.2 with
  | .int v => jv_in (jv_hl ow q.1) (.constant (jv_own ow) q.1 v)
  | .ref a => match jv_tix a with
    | some i => match jv_str[i]? with
      | some (own, idx, _) => decide (own = jv_own ow ∧ idx = q.1)
      | none => false
    | none => false
  | _ => false
theorem jv_kf0 : (jv_fld0).all (jv_ckf1 0) = true := by decide +kernel
theorem jv_kf1 : (jv_fld1).all (jv_ckf1 1) = true := by decide +kernel
theorem jv_kf2 : (jv_fld2).all (jv_ckf1 2) = true := by decide +kernel
theorem jv_kf3 : (jv_fld3).all (jv_ckf1 3) = true := by decide +kernel
theorem jv_kf4 : (jv_fld4).all (jv_ckf1 4) = true := by decide +kernel
theorem jv_kf5 : (jv_fld5).all (jv_ckf1 5) = true := by decide +kernel
theorem jv_kf6 : (jv_fld6).all (jv_ckf1 6) = true := by decide +kernel
theorem jv_kf7 : (jv_fld7).all (jv_ckf1 7) = true := by decide +kernel
theorem jv_kf8 : (jv_fld8).all (jv_ckf1 8) = true := by decide +kernel
theorem jv_kf9 : (jv_fld9).all (jv_ckf1 9) = true := by decide +kernel
theorem jv_kf10 : (jv_fld10).all (jv_ckf1 10) = true := by decide +kernel
theorem jv_kf11 : (jv_fld11).all (jv_ckf1 11) = true := by decide +kernel
theorem jv_kf12 : (jv_fld12).all (jv_ckf1 12) = true := by decide +kernel
theorem jv_kf13 : (jv_fld13).all (jv_ckf1 13) = true := by decide +kernel
theorem jv_kf14 : (jv_fld14).all (jv_ckf1 14) = true := by decide +kernel
theorem jv_kf15 : (jv_fld15).all (jv_ckf1 15) = true := by decide +kernel
theorem jv_kf16 : (jv_fld16).all (jv_ckf1 16) = true := by decide +kernel
theorem jv_kf17 : (jv_fld17).all (jv_ckf1 17) = true := by decide +kernel
theorem jv_ckf_ok {ow i : Nat} {v : Nat × Nat} (h : jv_fld ow i = some v) : jv_ckf1 ow (i, v) = true := by
  unfold jv_fld at h
  split at h
  · cases h
  · rename_i a ha
    have hm := jv_as_mem a h
    match ow, ha with
    | 0, ha => cases ha; exact List.all_eq_true.mp jv_kf0 _ hm
    | 1, ha => cases ha; exact List.all_eq_true.mp jv_kf1 _ hm
    | 2, ha => cases ha; exact List.all_eq_true.mp jv_kf2 _ hm
    | 3, ha => cases ha; exact List.all_eq_true.mp jv_kf3 _ hm
    | 4, ha => cases ha; exact List.all_eq_true.mp jv_kf4 _ hm
    | 5, ha => cases ha; exact List.all_eq_true.mp jv_kf5 _ hm
    | 6, ha => cases ha; exact List.all_eq_true.mp jv_kf6 _ hm
    | 7, ha => cases ha; exact List.all_eq_true.mp jv_kf7 _ hm
    | 8, ha => cases ha; exact List.all_eq_true.mp jv_kf8 _ hm
    | 9, ha => cases ha; exact List.all_eq_true.mp jv_kf9 _ hm
    | 10, ha => cases ha; exact List.all_eq_true.mp jv_kf10 _ hm
    | 11, ha => cases ha; exact List.all_eq_true.mp jv_kf11 _ hm
    | 12, ha => cases ha; exact List.all_eq_true.mp jv_kf12 _ hm
    | 13, ha => cases ha; exact List.all_eq_true.mp jv_kf13 _ hm
    | 14, ha => cases ha; exact List.all_eq_true.mp jv_kf14 _ hm
    | 15, ha => cases ha; exact List.all_eq_true.mp jv_kf15 _ hm
    | 16, ha => cases ha; exact List.all_eq_true.mp jv_kf16 _ hm
    | 17, ha => cases ha; exact List.all_eq_true.mp jv_kf17 _ hm
    | ow + 18, ha => rw [show jv_nth jv_flds (ow + 18) = jv_nth ([] : List (List (Nat × Nat × Nat))) ow from rfl, jv_nil] at ha; cases ha
theorem jv_kc0 : (jv_cal0).all (jv_ckc1 0) = true := by decide +kernel
theorem jv_kc1 : (jv_cal1).all (jv_ckc1 1) = true := by decide +kernel
theorem jv_kc2 : (jv_cal2).all (jv_ckc1 2) = true := by decide +kernel
theorem jv_kc3 : (jv_cal3).all (jv_ckc1 3) = true := by decide +kernel
theorem jv_kc4 : (jv_cal4).all (jv_ckc1 4) = true := by decide +kernel
theorem jv_kc5 : (jv_cal5).all (jv_ckc1 5) = true := by decide +kernel
theorem jv_kc6 : (jv_cal6).all (jv_ckc1 6) = true := by decide +kernel
theorem jv_kc7 : (jv_cal7).all (jv_ckc1 7) = true := by decide +kernel
theorem jv_kc8 : (jv_cal8).all (jv_ckc1 8) = true := by decide +kernel
theorem jv_kc9 : (jv_cal9).all (jv_ckc1 9) = true := by decide +kernel
theorem jv_kc10 : (jv_cal10).all (jv_ckc1 10) = true := by decide +kernel
theorem jv_kc11 : (jv_cal11).all (jv_ckc1 11) = true := by decide +kernel
theorem jv_kc12 : (jv_cal12).all (jv_ckc1 12) = true := by decide +kernel
theorem jv_kc13 : (jv_cal13).all (jv_ckc1 13) = true := by decide +kernel
theorem jv_kc14 : (jv_cal14).all (jv_ckc1 14) = true := by decide +kernel
theorem jv_kc15 : (jv_cal15).all (jv_ckc1 15) = true := by decide +kernel
theorem jv_kc16 : (jv_cal16).all (jv_ckc1 16) = true := by decide +kernel
theorem jv_kc17 : (jv_cal17).all (jv_ckc1 17) = true := by decide +kernel
theorem jv_ckc_ok {ow i : Nat} {v : Nat × Nat × Nat} (h : jv_cal ow i = some v) : jv_ckc1 ow (i, v) = true := by
  unfold jv_cal at h
  split at h
  · cases h
  · rename_i a ha
    have hm := jv_as_mem a h
    match ow, ha with
    | 0, ha => cases ha; exact List.all_eq_true.mp jv_kc0 _ hm
    | 1, ha => cases ha; exact List.all_eq_true.mp jv_kc1 _ hm
    | 2, ha => cases ha; exact List.all_eq_true.mp jv_kc2 _ hm
    | 3, ha => cases ha; exact List.all_eq_true.mp jv_kc3 _ hm
    | 4, ha => cases ha; exact List.all_eq_true.mp jv_kc4 _ hm
    | 5, ha => cases ha; exact List.all_eq_true.mp jv_kc5 _ hm
    | 6, ha => cases ha; exact List.all_eq_true.mp jv_kc6 _ hm
    | 7, ha => cases ha; exact List.all_eq_true.mp jv_kc7 _ hm
    | 8, ha => cases ha; exact List.all_eq_true.mp jv_kc8 _ hm
    | 9, ha => cases ha; exact List.all_eq_true.mp jv_kc9 _ hm
    | 10, ha => cases ha; exact List.all_eq_true.mp jv_kc10 _ hm
    | 11, ha => cases ha; exact List.all_eq_true.mp jv_kc11 _ hm
    | 12, ha => cases ha; exact List.all_eq_true.mp jv_kc12 _ hm
    | 13, ha => cases ha; exact List.all_eq_true.mp jv_kc13 _ hm
    | 14, ha => cases ha; exact List.all_eq_true.mp jv_kc14 _ hm
    | 15, ha => cases ha; exact List.all_eq_true.mp jv_kc15 _ hm
    | 16, ha => cases ha; exact List.all_eq_true.mp jv_kc16 _ hm
    | 17, ha => cases ha; exact List.all_eq_true.mp jv_kc17 _ hm
    | ow + 18, ha => rw [show jv_nth jv_cals (ow + 18) = jv_nth ([] : List (List (Nat × Nat × Nat × Nat))) ow from rfl, jv_nil] at ha; cases ha
theorem jv_kn0 : (jv_new0).all (jv_ckn1 0) = true := by decide +kernel
theorem jv_kn1 : (jv_new1).all (jv_ckn1 1) = true := by decide +kernel
theorem jv_kn2 : (jv_new2).all (jv_ckn1 2) = true := by decide +kernel
theorem jv_kn3 : (jv_new3).all (jv_ckn1 3) = true := by decide +kernel
theorem jv_kn4 : (jv_new4).all (jv_ckn1 4) = true := by decide +kernel
theorem jv_kn5 : (jv_new5).all (jv_ckn1 5) = true := by decide +kernel
theorem jv_kn6 : (jv_new6).all (jv_ckn1 6) = true := by decide +kernel
theorem jv_kn7 : (jv_new7).all (jv_ckn1 7) = true := by decide +kernel
theorem jv_kn8 : (jv_new8).all (jv_ckn1 8) = true := by decide +kernel
theorem jv_kn9 : (jv_new9).all (jv_ckn1 9) = true := by decide +kernel
theorem jv_kn10 : (jv_new10).all (jv_ckn1 10) = true := by decide +kernel
theorem jv_kn11 : (jv_new11).all (jv_ckn1 11) = true := by decide +kernel
theorem jv_kn12 : (jv_new12).all (jv_ckn1 12) = true := by decide +kernel
theorem jv_kn13 : (jv_new13).all (jv_ckn1 13) = true := by decide +kernel
theorem jv_kn14 : (jv_new14).all (jv_ckn1 14) = true := by decide +kernel
theorem jv_kn15 : (jv_new15).all (jv_ckn1 15) = true := by decide +kernel
theorem jv_kn16 : (jv_new16).all (jv_ckn1 16) = true := by decide +kernel
theorem jv_kn17 : (jv_new17).all (jv_ckn1 17) = true := by decide +kernel
theorem jv_ckn_ok {ow i : Nat} {v : Nat} (h : jv_new ow i = some v) : jv_ckn1 ow (i, v) = true := by
  unfold jv_new at h
  split at h
  · cases h
  · rename_i a ha
    have hm := jv_as_mem a h
    match ow, ha with
    | 0, ha => cases ha; exact List.all_eq_true.mp jv_kn0 _ hm
    | 1, ha => cases ha; exact List.all_eq_true.mp jv_kn1 _ hm
    | 2, ha => cases ha; exact List.all_eq_true.mp jv_kn2 _ hm
    | 3, ha => cases ha; exact List.all_eq_true.mp jv_kn3 _ hm
    | 4, ha => cases ha; exact List.all_eq_true.mp jv_kn4 _ hm
    | 5, ha => cases ha; exact List.all_eq_true.mp jv_kn5 _ hm
    | 6, ha => cases ha; exact List.all_eq_true.mp jv_kn6 _ hm
    | 7, ha => cases ha; exact List.all_eq_true.mp jv_kn7 _ hm
    | 8, ha => cases ha; exact List.all_eq_true.mp jv_kn8 _ hm
    | 9, ha => cases ha; exact List.all_eq_true.mp jv_kn9 _ hm
    | 10, ha => cases ha; exact List.all_eq_true.mp jv_kn10 _ hm
    | 11, ha => cases ha; exact List.all_eq_true.mp jv_kn11 _ hm
    | 12, ha => cases ha; exact List.all_eq_true.mp jv_kn12 _ hm
    | 13, ha => cases ha; exact List.all_eq_true.mp jv_kn13 _ hm
    | 14, ha => cases ha; exact List.all_eq_true.mp jv_kn14 _ hm
    | 15, ha => cases ha; exact List.all_eq_true.mp jv_kn15 _ hm
    | 16, ha => cases ha; exact List.all_eq_true.mp jv_kn16 _ hm
    | 17, ha => cases ha; exact List.all_eq_true.mp jv_kn17 _ hm
    | ow + 18, ha => rw [show jv_nth jv_news (ow + 18) = jv_nth ([] : List (List (Nat × Nat))) ow from rfl, jv_nil] at ha; cases ha
theorem jv_kl0 : (jv_ldc0).all (jv_ckl1 0) = true := by decide +kernel
theorem jv_kl1 : (jv_ldc1).all (jv_ckl1 1) = true := by decide +kernel
theorem jv_kl2 : (jv_ldc2).all (jv_ckl1 2) = true := by decide +kernel
theorem jv_kl3 : (jv_ldc3).all (jv_ckl1 3) = true := by decide +kernel
theorem jv_kl4 : (jv_ldc4).all (jv_ckl1 4) = true := by decide +kernel
theorem jv_kl5 : (jv_ldc5).all (jv_ckl1 5) = true := by decide +kernel
theorem jv_kl6 : (jv_ldc6).all (jv_ckl1 6) = true := by decide +kernel
theorem jv_kl7 : (jv_ldc7).all (jv_ckl1 7) = true := by decide +kernel
theorem jv_kl8 : (jv_ldc8).all (jv_ckl1 8) = true := by decide +kernel
theorem jv_kl9 : (jv_ldc9).all (jv_ckl1 9) = true := by decide +kernel
theorem jv_kl10 : (jv_ldc10).all (jv_ckl1 10) = true := by decide +kernel
theorem jv_kl11 : (jv_ldc11).all (jv_ckl1 11) = true := by decide +kernel
theorem jv_kl12 : (jv_ldc12).all (jv_ckl1 12) = true := by decide +kernel
theorem jv_kl13 : (jv_ldc13).all (jv_ckl1 13) = true := by decide +kernel
theorem jv_kl14 : (jv_ldc14).all (jv_ckl1 14) = true := by decide +kernel
theorem jv_kl15 : (jv_ldc15).all (jv_ckl1 15) = true := by decide +kernel
theorem jv_kl16 : (jv_ldc16).all (jv_ckl1 16) = true := by decide +kernel
theorem jv_kl17 : (jv_ldc17).all (jv_ckl1 17) = true := by decide +kernel
theorem jv_ckl_ok {ow i : Nat} {v : Value} (h : jv_ldc ow i = some v) : jv_ckl1 ow (i, v) = true := by
  unfold jv_ldc at h
  split at h
  · cases h
  · rename_i a ha
    have hm := jv_as_mem a h
    match ow, ha with
    | 0, ha => cases ha; exact List.all_eq_true.mp jv_kl0 _ hm
    | 1, ha => cases ha; exact List.all_eq_true.mp jv_kl1 _ hm
    | 2, ha => cases ha; exact List.all_eq_true.mp jv_kl2 _ hm
    | 3, ha => cases ha; exact List.all_eq_true.mp jv_kl3 _ hm
    | 4, ha => cases ha; exact List.all_eq_true.mp jv_kl4 _ hm
    | 5, ha => cases ha; exact List.all_eq_true.mp jv_kl5 _ hm
    | 6, ha => cases ha; exact List.all_eq_true.mp jv_kl6 _ hm
    | 7, ha => cases ha; exact List.all_eq_true.mp jv_kl7 _ hm
    | 8, ha => cases ha; exact List.all_eq_true.mp jv_kl8 _ hm
    | 9, ha => cases ha; exact List.all_eq_true.mp jv_kl9 _ hm
    | 10, ha => cases ha; exact List.all_eq_true.mp jv_kl10 _ hm
    | 11, ha => cases ha; exact List.all_eq_true.mp jv_kl11 _ hm
    | 12, ha => cases ha; exact List.all_eq_true.mp jv_kl12 _ hm
    | 13, ha => cases ha; exact List.all_eq_true.mp jv_kl13 _ hm
    | 14, ha => cases ha; exact List.all_eq_true.mp jv_kl14 _ hm
    | 15, ha => cases ha; exact List.all_eq_true.mp jv_kl15 _ hm
    | 16, ha => cases ha; exact List.all_eq_true.mp jv_kl16 _ hm
    | 17, ha => cases ha; exact List.all_eq_true.mp jv_kl17 _ hm
    | ow + 18, ha => rw [show jv_nth jv_ldcs (ow + 18) = jv_nth ([] : List (List (Nat × Value))) ow from rfl, jv_nil] at ha; cases ha
def jv_hl100 : List Nat := [1207, 1209, 1211]
theorem jv_lay0 : (List.range (jv_fn 0)).all (fun k => jv_in (jv_hl100.getD k 0) (u_lay (jv_own 0) (jv_fT 0) k)) = true := by decide +kernel
def jv_hl101 : List Nat := [2068, 2070, 2072]
theorem jv_lay1 : (List.range (jv_fn 1)).all (fun k => jv_in (jv_hl101.getD k 0) (u_lay (jv_own 1) (jv_fT 1) k)) = true := by decide +kernel
def jv_hl102 : List Nat := [1157, 1159, 1161, 1163, 1165, 1167]
theorem jv_lay2 : (List.range (jv_fn 2)).all (fun k => jv_in (jv_hl102.getD k 0) (u_lay (jv_own 2) (jv_fT 2) k)) = true := by decide +kernel
def jv_hl103 : List Nat := [1181, 1183, 1185]
theorem jv_lay3 : (List.range (jv_fn 3)).all (fun k => jv_in (jv_hl103.getD k 0) (u_lay (jv_own 3) (jv_fT 3) k)) = true := by decide +kernel
def jv_hl104 : List Nat := [1068, 1070]
theorem jv_lay4 : (List.range (jv_fn 4)).all (fun k => jv_in (jv_hl104.getD k 0) (u_lay (jv_own 4) (jv_fT 4) k)) = true := by decide +kernel
def jv_hl105 : List Nat := [1242, 1244, 1246, 1248, 1250, 1252, 1254, 1256, 1258, 1260, 1262, 2048, 2050]
theorem jv_lay5 : (List.range (jv_fn 5)).all (fun k => jv_in (jv_hl105.getD k 0) (u_lay (jv_own 5) (jv_fT 5) k)) = true := by decide +kernel
def jv_hl106 : List Nat := [1128, 1130, 1132, 1134, 1136, 1138, 1140, 1142, 1144, 1146]
theorem jv_lay6 : (List.range (jv_fn 6)).all (fun k => jv_in (jv_hl106.getD k 0) (u_lay (jv_own 6) (jv_fT 6) k)) = true := by decide +kernel
def jv_hl107 : List Nat := [2086, 2088, 2090, 2092, 2094, 2096, 2098, 2100, 2102, 2104]
theorem jv_lay7 : (List.range (jv_fn 7)).all (fun k => jv_in (jv_hl107.getD k 0) (u_lay (jv_own 7) (jv_fT 7) k)) = true := by decide +kernel
def jv_hl108 : List Nat := [5132, 5134, 5136, 5138]
theorem jv_lay8 : (List.range (jv_fn 8)).all (fun k => jv_in (jv_hl108.getD k 0) (u_lay (jv_own 8) (jv_fT 8) k)) = true := by decide +kernel
def jv_hl109 : List Nat := [4235, 4237, 4239, 4241]
theorem jv_lay9 : (List.range (jv_fn 9)).all (fun k => jv_in (jv_hl109.getD k 0) (u_lay (jv_own 9) (jv_fT 9) k)) = true := by decide +kernel
theorem jv_ws_in (c : Nat) (h : c < 10) : ∀ w ∈ u_ws (jv_own c) (jv_fT c) (jv_fn c), w ∈ jv_T := by
  intro w hw
  obtain ⟨k, hk, rfl⟩ := List.mem_map.mp hw
  match c, h with
  | 0, _ => exact jv_in_ok (List.all_eq_true.mp jv_lay0 k hk)
  | 1, _ => exact jv_in_ok (List.all_eq_true.mp jv_lay1 k hk)
  | 2, _ => exact jv_in_ok (List.all_eq_true.mp jv_lay2 k hk)
  | 3, _ => exact jv_in_ok (List.all_eq_true.mp jv_lay3 k hk)
  | 4, _ => exact jv_in_ok (List.all_eq_true.mp jv_lay4 k hk)
  | 5, _ => exact jv_in_ok (List.all_eq_true.mp jv_lay5 k hk)
  | 6, _ => exact jv_in_ok (List.all_eq_true.mp jv_lay6 k hk)
  | 7, _ => exact jv_in_ok (List.all_eq_true.mp jv_lay7 k hk)
  | 8, _ => exact jv_in_ok (List.all_eq_true.mp jv_lay8 k hk)
  | 9, _ => exact jv_in_ok (List.all_eq_true.mp jv_lay9 k hk)
  | c + 10, h => omega
theorem jv_ty_ok (c : Nat) (h : c < 10) : ∀ k, k < jv_fn c → parseFieldDescriptor (jv_fT c k).2.2.1 = some (jv_fty c k) := by
  match c, h with
  | 0, _ => exact tyX0_ok
  | 1, _ => exact tyX1_ok
  | 2, _ => exact tyX2_ok
  | 3, _ => exact tyX3_ok
  | 4, _ => exact tyX4_ok
  | 5, _ => exact tyX5_ok
  | 6, _ => exact tyX6_ok
  | 7, _ => exact tyX7_ok
  | 8, _ => exact tyJ0_ok
  | 9, _ => exact tyJ4_ok
  | c + 10, h => omega
theorem jv_nm_ok (c : Nat) (h : c < 10) : ∀ a, a < jv_fn c → ∀ b, b < jv_fn c → a ≠ b → (jv_fT c a).2.1 ≠ (jv_fT c b).2.1 := by
  match c, h with
  | 0, _ => exact nmX0
  | 1, _ => exact nmX1
  | 2, _ => exact nmX2
  | 3, _ => exact nmX3
  | 4, _ => exact nmX4
  | 5, _ => exact nmX5
  | 6, _ => exact nmX6
  | 7, _ => exact nmX7
  | 8, _ => exact nmJ0
  | 9, _ => exact nmJ4
  | c + 10, h => omega
theorem jv_dcl_ok : ∀ c, c < 10 → ∀ k, k < jv_fn c → (jv_fT c k).2.2.2 = true → (jv_fT c k).1 = jv_own c := by decide +kernel
theorem jv_inst_ok : ∀ c, c < 10 → jv_in (([1198, 2057, 1053, 1171, 1059, 1189, 1075, 1045, 4305, 4106] : List Nat).getD c 0) (.instantiable (jv_own c) (jv_fn c)) = true ∧ jv_in (([1031, 1032, 1026, 1029, 1027, 1030, 1028, 1025, 1036, 1035] : List Nat).getD c 0) (.initialized (jv_own c)) = true := by decide +kernel
theorem jv_arrI : jv_in 1073 (.arrayClass .int) = true := by decide +kernel
theorem jv_arrZ : jv_in 2075 (.arrayClass .boolean) = true := by decide +kernel
theorem jv_arrB : jv_in 3084 (.arrayClass .byte) = true := by decide +kernel
theorem jv_arrT6 : Cond.arrayOver (.object "SeatSwap$Traveller") ∈ lw_tbl := List.mem_of_getElem? (i := 206) (by decide +kernel)
theorem jv_arrT5 : Cond.arrayOver (.object "SeatSwap$Train") ∈ lw_tbl := List.mem_of_getElem? (i := 282) (by decide +kernel)
theorem jv_arrT8 : Cond.arrayOver (.object "java/lang/String") ∈ lw_tbl := List.mem_of_getElem? (i := 943) (by decide +kernel)
theorem jv_arrTA : Cond.arrayOver (.array .int) ∈ lw_tbl := List.mem_of_getElem? (i := 1049) (by decide +kernel)
theorem jv_obI : jv_in 1050 (.instanceMethod Lib.objectInit) = true := by decide +kernel
theorem jv_obC : jv_in 1051 (.code Lib.objectInit ⟨#[0xb1]⟩ 1 none) = true := by decide +kernel
