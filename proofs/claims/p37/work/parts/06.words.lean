/-! THE TABLES' WORDS, by their places in lw_tbl: printed by wip/gen/words.py -/
/-- the words that every method here is given -/
def jv_T : List Cond := lw_tbl.filter goodWord
/-- words alike: a method's bytes are compared as a list (in an array each place costs its number) -/
theorem jv_bytes {a b : ByteArray} (h : a.data.toList = b.data.toList) : a = b := by
  cases a
  cases b
  exact congrArg ByteArray.mk (Array.toList_inj.mp h)
def jv_eqw (u w : Cond) : Bool := match u with
  | .code n b m r => (match w with
    | .code n' b' m' r' => decide (n = n') && (decide (b.data.toList = b'.data.toList) && (decide (m = m') && decide (r = r')))
    | _ => false)
  | _ => decide (u = w)
theorem jv_eqw_ok {u w : Cond} (h : jv_eqw u w = true) : u = w := by
  unfold jv_eqw at h
  split at h
  · split at h
    · simp only [Bool.and_eq_true, decide_eq_true_eq] at h
      obtain ⟨h1, h2, h3, h4⟩ := h
      have h2 := jv_bytes h2
      subst h1 h2 h3 h4
      rfl
    · cases h
  · exact of_decide_eq_true h
/-- the tables one by one: a word by its table and its place there -/
def jv_tab (k : Nat) : List Cond := match k with
  | 0 => k2_sels lw_privs
  | 1 => tables_1_1
  | 2 => tables_1_2
  | 3 => tables_1_3
  | 4 => tables_1_4
  | 5 => tables_1_5
  | 6 => tables_1_6
  | 7 => tables_1_7
  | _ => []
theorem jv_tab_in {k : Nat} {w : Cond} (h : w ∈ jv_tab k) : w ∈ lw_tbl := by
  unfold lw_tbl tables_1
  simp only [List.mem_append]
  match k, h with
  | 0, h => exact Or.inl h
  | 1, h => exact Or.inr (Or.inl h)
  | 2, h => exact Or.inr (Or.inr (Or.inl h))
  | 3, h => exact Or.inr (Or.inr (Or.inr (Or.inl h)))
  | 4, h => exact Or.inr (Or.inr (Or.inr (Or.inr (Or.inl h))))
  | 5, h => exact Or.inr (Or.inr (Or.inr (Or.inr (Or.inr (Or.inl h)))))
  | 6, h => exact Or.inr (Or.inr (Or.inr (Or.inr (Or.inr (Or.inr (Or.inl h))))))
  | 7, h => exact Or.inr (Or.inr (Or.inr (Or.inr (Or.inr (Or.inr (Or.inr (h)))))))
  | k + 8, h => cases h
def jv_inw (i : Nat) (w : Cond) : Bool := match (jv_tab (i / 1024))[i % 1024]? with
  | some u => jv_eqw u w
  | none => false
theorem jv_inw_ok {i : Nat} {w : Cond} (h : jv_inw i w = true) : w ∈ lw_tbl := by
  unfold jv_inw at h
  split at h
  · rename_i u e
    have e2 := jv_eqw_ok h
    subst e2
    exact jv_tab_in (List.mem_of_getElem? e)
  · cases h
def jv_in (i : Nat) (w : Cond) : Bool := jv_inw i w && goodWord w
theorem jv_in_ok {i : Nat} {w : Cond} (h : jv_in i w = true) : w ∈ jv_T := by
  simp only [jv_in, Bool.and_eq_true] at h
  exact List.mem_filter.mpr ⟨jv_inw_ok h.1, h.2⟩
theorem jv_as_mem {α : Type} {n : Nat} {v : α} : ∀ (l : List (Nat × α)), jv_as l n = some v → (n, v) ∈ l
  | [], h => by cases h
  | a :: l, h => by
    unfold jv_as at h
    split at h
    · rename_i e
      cases h
      rw [← e]
      exact List.mem_cons_self
    · exact List.mem_cons_of_mem _ (jv_as_mem l h)
def jv_byt : List (List Int32) := [[116, 114, 97, 105, 110], [102, 105, 114, 115, 116], [115, 101, 97, 116], [116, 105, 99, 107, 101, 116], [102, 97, 109, 105, 108, 121], [119, 105, 110, 100, 111, 119], [97, 104, 101, 97, 100], [114, 111, 119], [115, 119, 101, 101, 116, 115], [115, 116, 111, 112], [116, 114, 97, 105, 110, 32], [32, 102, 105, 114, 115, 116, 32], [115, 101, 97, 116, 32], [32, 116, 105, 99, 107, 101, 116], [32, 102, 97, 109, 105, 108, 121, 32], [32, 119, 105, 110, 100, 111, 119, 32], [32, 97, 104, 101, 97, 100, 32], [32, 114, 111, 119, 32], [32, 115, 119, 101, 101, 116, 115, 32], [32, 115, 116, 111, 112, 32]]
def jv_lens : List Nat := [5, 5, 4, 6, 6, 6, 5, 3, 6, 4, 6, 7, 5, 7, 8, 8, 7, 5, 8, 6]
/-- which text lies at a place: 1000001 + its number -/
def jv_tix (a : Nat) : Option Nat := (List.range 20).find? (fun i => Nat.beq a (1000001 + i))
theorem jv_tix_eq {a i : Nat} (h : jv_tix a = some i) : i < 20 ∧ a = 1000001 + i := by
  unfold jv_tix at h
  exact ⟨List.mem_range.mp (List.mem_of_find?_eq_some h), Nat.eq_of_beq_eq_true (List.find?_some (p := fun i => Nat.beq a (1000001 + i)) h)⟩
def jv_hm0 : List (List Nat) := [[1196, 1195, 0, 1031], [2140, 2138, 2139, 1031], [3097, 3095, 3096, 1031], [3148, 3147, 19, 1031], [3153, 3152, 20, 1031], [3144, 3142, 3143, 1031], [4267, 4265, 4266, 1031], [2055, 2054, 0, 1032], [3101, 3099, 3100, 1032], [3130, 3129, 18, 1032], [3126, 3124, 3125, 1032], [4106, 4104, 4105, 1032], [1051, 1050, 0, 1026], [2155, 2154, 0, 1026], [2144, 2143, 1, 1026], [2148, 2147, 2, 1026]]
def jv_hm1 : List (List Nat) := [[2229, 2228, 8, 1026], [2164, 2163, 4, 1026], [2274, 2273, 14, 1026], [2270, 2269, 13, 1026], [2266, 2265, 12, 1026], [2224, 2223, 7, 1026], [2216, 2215, 5, 1026], [2160, 2159, 3, 1026], [2285, 2284, 15, 1026], [2220, 2219, 6, 1026], [3073, 3072, 16, 1026], [2242, 2241, 10, 1026], [2262, 2261, 11, 1026], [3120, 3118, 3119, 1026], [3139, 3137, 3138, 1026], [2132, 2130, 2131, 1026]]
def jv_hm2 : List (List Nat) := [[2233, 2232, 9, 1026], [1169, 1168, 0, 1029], [4301, 4299, 4300, 1029], [4323, 4322, 33, 1029], [4331, 4330, 34, 1029], [5120, 4335, 35, 1029], [4316, 4315, 32, 1029], [4306, 4305, 30, 1029], [4312, 4311, 31, 1029], [1057, 1056, 0, 1027], [2109, 2107, 2108, 1027], [2113, 2111, 2112, 1027], [2117, 2116, 0, 1027], [2152, 2150, 2151, 1027], [1187, 1186, 0, 1030], [2136, 2134, 2135, 1030]]
def jv_hm3 : List (List Nat) := [[3093, 3091, 3092, 1030], [2254, 2252, 2253, 1030], [2258, 2256, 2257, 1030], [4123, 4121, 4122, 1030], [3114, 3112, 3113, 1030], [3161, 3159, 3160, 1030], [3165, 3163, 3164, 1030], [2250, 2248, 2249, 1030], [2246, 2244, 2245, 1030], [3077, 3075, 3076, 1030], [3198, 3196, 3197, 1030], [3182, 3180, 3181, 1030], [3215, 3214, 22, 1030], [3089, 3088, 17, 1030], [3081, 3079, 3080, 1030], [3306, 3305, 27, 1030]]
def jv_hm4 : List (List Nat) := [[3302, 3300, 3301, 1030], [3207, 3205, 3206, 1030], [3203, 3201, 3202, 1030], [3211, 3209, 3210, 1030], [3221, 3220, 0, 1030], [3292, 3290, 3291, 1030], [4115, 4113, 4114, 1030], [4140, 4138, 4139, 1030], [4198, 4196, 4197, 1030], [4165, 4164, 28, 1030], [4161, 4159, 4160, 1030], [4169, 4167, 4168, 1030], [4173, 4171, 4172, 1030], [4177, 4175, 4176, 1030], [4131, 4129, 4130, 1030], [4186, 4184, 4185, 1030]]
def jv_hm5 : List (List Nat) := [[4190, 4188, 4189, 1030], [4127, 4125, 4126, 1030], [4119, 4117, 4118, 1030], [3229, 3228, 24, 1030], [3225, 3224, 23, 1030], [3268, 3267, 25, 1030], [3236, 3234, 3235, 1030], [4219, 4217, 4218, 1030], [3194, 3192, 3193, 1030], [3240, 3238, 3239, 1030], [3249, 3247, 3248, 1030], [3256, 3254, 3255, 1030], [3264, 3262, 3263, 1030], [3272, 3270, 3271, 1030], [3276, 3274, 3275, 1030], [4249, 4247, 4248, 1030]]
def jv_hm6 : List (List Nat) := [[4231, 4229, 4230, 1030], [4240, 4238, 4239, 1030], [3288, 3286, 3287, 1030], [4288, 4286, 4287, 1030], [4292, 4291, 29, 1030], [1073, 1072, 0, 1028], [2237, 2235, 2236, 1028], [3085, 3083, 3084, 1028], [3170, 3168, 3169, 1028], [3174, 3172, 3173, 1028], [4148, 4146, 4147, 1028], [1043, 1042, 0, 1025], [2105, 2103, 2104, 1025], [2121, 2119, 2120, 1025], [2128, 2126, 2127, 1025], [3106, 3104, 3105, 1025]]
def jv_hm7 : List (List Nat) := [[3110, 3108, 3109, 1025], [3157, 3155, 3156, 1025], [3178, 3176, 3177, 1025], [3186, 3184, 3185, 1025], [3245, 3243, 3244, 1025], [3260, 3258, 3259, 1025], [3280, 3278, 3279, 1025], [3298, 3296, 3297, 1025], [3310, 3308, 3309, 1025], [4098, 4096, 4097, 1025], [4102, 4100, 4101, 1025], [4110, 4108, 4109, 1025], [4135, 4133, 4134, 1025], [4144, 4142, 4143, 1025], [4152, 4150, 4151, 1025], [4157, 4155, 4156, 1025]]
def jv_hm8 : List (List Nat) := [[4181, 4179, 4180, 1025], [4194, 4192, 4193, 1025], [4203, 4201, 4202, 1025], [4207, 4205, 4206, 1025], [4211, 4209, 4210, 1025], [4215, 4213, 4214, 1025], [4223, 4221, 4222, 1025], [4227, 4225, 4226, 1025], [4236, 4234, 4235, 1025], [4245, 4243, 4244, 1025], [4255, 4253, 4254, 1025], [4259, 4257, 4258, 1025], [4263, 4261, 4262, 1025], [4271, 4269, 4270, 1025], [4275, 4273, 4274, 1025], [4279, 4277, 4278, 1025]]
def jv_hm9 : List (List Nat) := [[4283, 4281, 4282, 1025], [4297, 4295, 4296, 1025], [5129, 5127, 5128, 1025], [2124, 2123, 0, 1025], [3232, 3231, 0, 1025], [3190, 3189, 21, 1025], [3284, 3283, 26, 1025], [5134, 5133, 0, 1033], [5241, 5240, 0, 1033], [5291, 5290, 0, 1033], [6189, 6188, 54, 1033], [5253, 5252, 0, 1033], [5319, 5318, 51, 1033], [5303, 5302, 48, 1033], [5341, 5340, 53, 1033], [5344, 5343, 0, 1033]]
def jv_hm10 : List (List Nat) := [[5288, 5287, 0, 1033], [5359, 5358, 0, 1033], [6149, 6148, 0, 1033], [6152, 6151, 0, 1033], [6239, 6238, 0, 1033], [5250, 5249, 0, 1033], [5285, 5284, 0, 1033], [5282, 5281, 0, 1033], [6146, 6145, 0, 1033], [5356, 5355, 0, 1033], [5353, 5352, 0, 1033], [6192, 6191, 0, 1033], [6232, 6231, 0, 1033], [6155, 6154, 0, 1033], [6178, 6177, 0, 1033], [5350, 5349, 0, 1033]]
def jv_hm11 : List (List Nat) := [[5347, 5346, 0, 1033], [6165, 6164, 0, 1033], [6175, 6174, 0, 1033], [6172, 6171, 0, 1033], [6181, 6180, 0, 1033], [6201, 6200, 0, 1033], [6198, 6197, 0, 1033], [6195, 6194, 0, 1033], [5193, 5191, 5192, 1033], [5197, 5195, 5196, 1033], [5201, 5199, 5200, 1033], [5213, 5212, 37, 1033], [5221, 5220, 39, 1033], [5209, 5208, 36, 1033], [5217, 5216, 38, 1033], [5225, 5224, 40, 1033]]
def jv_hm12 : List (List Nat) := [[5230, 5229, 41, 1033], [5262, 5261, 0, 1033], [5234, 5233, 42, 1033], [5238, 5237, 43, 1033], [5270, 5269, 45, 1033], [5276, 5275, 46, 1033], [5256, 5255, 0, 1033], [5259, 5258, 0, 1033], [6262, 6261, 0, 1033], [5265, 5264, 0, 1033], [5247, 5246, 44, 1033], [5205, 5203, 5204, 1033], [5311, 5310, 50, 1033], [5307, 5306, 49, 1033], [6158, 6157, 0, 1033], [5299, 5298, 47, 1033]]
def jv_hm13 : List (List Nat) := [[5295, 5293, 5294, 1033], [5326, 5325, 0, 1033], [5323, 5322, 52, 1033], [5315, 5313, 5314, 1033], [5333, 5332, 0, 1033], [5330, 5328, 5329, 1033], [5337, 5335, 5336, 1033], [6162, 6160, 6161, 1033], [6169, 6167, 6168, 1033], [6185, 6183, 6184, 1033], [6213, 6212, 56, 1033], [6209, 6208, 55, 1033], [6205, 6203, 6204, 1033], [6217, 6215, 6216, 1033], [6221, 6219, 6220, 1033], [6225, 6223, 6224, 1033]]
def jv_hm14 : List (List Nat) := [[6236, 6235, 57, 1033], [6247, 6246, 59, 1033], [6243, 6242, 58, 1033], [6229, 6227, 6228, 1033], [6255, 6254, 60, 1033], [6251, 6249, 6250, 1033], [6259, 6257, 6258, 1033], [6266, 6264, 6265, 1033], [6274, 6273, 61, 1033], [6282, 6281, 63, 1033], [6278, 6277, 62, 1033], [6270, 6268, 6269, 1033], [6290, 6289, 64, 1033], [6294, 6293, 65, 1033], [6286, 6284, 6285, 1033], [6298, 6296, 6297, 1033]]
def jv_hm15 : List (List Nat) := [[6302, 6300, 6301, 1033], [6306, 6304, 6305, 1033], [6310, 6308, 6309, 1033], [6314, 6312, 6313, 1033], [6318, 6316, 6317, 1033], [6322, 6320, 6321, 1033], [6326, 6324, 6325, 1033], [6330, 6328, 6329, 1033], [6334, 6332, 6333, 1033], [6338, 6336, 6337, 1033], [6342, 6340, 6341, 1033], [6346, 6344, 6345, 1033], [6350, 6348, 6349, 1033], [6362, 6361, 67, 1033], [6374, 6373, 69, 1033], [6358, 6357, 66, 1033]]
def jv_hm16 : List (List Nat) := [[6366, 6365, 68, 1033], [6354, 6352, 6353, 1033], [6370, 6368, 6369, 1033], [7178, 7177, 73, 1033], [7174, 7173, 72, 1033], [7170, 7169, 71, 1033], [7186, 7185, 75, 1033], [7190, 7189, 76, 1033], [7182, 7181, 74, 1033], [7194, 7193, 77, 1033], [6382, 6381, 70, 1033], [6378, 6376, 6377, 1033], [7198, 7196, 7197, 1033], [3133, 3132, 0, 1038], [3218, 3217, 0, 1038]]
def jv_hms : List (List (List Nat)) := [jv_hm0, jv_hm1, jv_hm2, jv_hm3, jv_hm4, jv_hm5, jv_hm6, jv_hm7, jv_hm8, jv_hm9, jv_hm10, jv_hm11, jv_hm12, jv_hm13, jv_hm14, jv_hm15, jv_hm16]
def jv_hm (y : Nat) : Option (List Nat) := match jv_nth jv_hms (y / 16) with
  | none => none
  | some a => jv_nth a (y % 16)
def jv_ckm (y : Nat) : Bool := match jv_inf y, jv_hm y with
  | some (ow, kd, na, mL, _, _), some [a, b, c, d] =>
    jv_in a (.code (jv_ym y).1 (jv_ym y).2.1 mL (jv_ym y).2.2) && jv_in d (.initialized (jv_ym y).1.cls) && plainFor (jv_ym y).1 &&
    decide ((jv_ym y).1.cls = jv_own ow ∧ ((jv_ym y).1.cls ≠ "java/lang/invoke/MethodHandle" ∧ (jv_ym y).1.cls ≠ "java/lang/invoke/VarHandle" ∧ (parseMethodDescriptor (jv_ym y).1.desc).map (fun d => d.parameters.length) = some (if kd = 0 then na else na - 1)) ∧ na ≤ mL ∧ (kd ≠ 0 → 1 ≤ na)) &&
    (match kd with
     | 0 => jv_in b (.static (jv_ym y).1)
     | 1 => jv_in b (.instanceMethod (jv_ym y).1) && jv_in c (.selects (jv_ym y).1.cls (jv_ym y).1 (jv_ym y).1)
     | _ => jv_in b (.instanceMethod (jv_ym y).1) && decide ((jv_ym y).1.name = "<init>" ∧ (jv_ym y).2.2 = none ∧ kd = 2))
  | _, _ => false
theorem jv_mg0 : ∀ k, k < 16 → jv_ckm (0 + k) = true := by decide +kernel
theorem jv_mg1 : ∀ k, k < 16 → jv_ckm (16 + k) = true := by decide +kernel
theorem jv_mg2 : ∀ k, k < 16 → jv_ckm (32 + k) = true := by decide +kernel
theorem jv_mg3 : ∀ k, k < 16 → jv_ckm (48 + k) = true := by decide +kernel
theorem jv_mg4 : ∀ k, k < 16 → jv_ckm (64 + k) = true := by decide +kernel
theorem jv_mg5 : ∀ k, k < 16 → jv_ckm (80 + k) = true := by decide +kernel
theorem jv_mg6 : ∀ k, k < 16 → jv_ckm (96 + k) = true := by decide +kernel
theorem jv_mg7 : ∀ k, k < 16 → jv_ckm (112 + k) = true := by decide +kernel
theorem jv_mg8 : ∀ k, k < 16 → jv_ckm (128 + k) = true := by decide +kernel
theorem jv_mg9 : ∀ k, k < 16 → jv_ckm (144 + k) = true := by decide +kernel
theorem jv_mg10 : ∀ k, k < 16 → jv_ckm (160 + k) = true := by decide +kernel
theorem jv_mg11 : ∀ k, k < 16 → jv_ckm (176 + k) = true := by decide +kernel
theorem jv_mg12 : ∀ k, k < 16 → jv_ckm (192 + k) = true := by decide +kernel
theorem jv_mg13 : ∀ k, k < 16 → jv_ckm (208 + k) = true := by decide +kernel
theorem jv_mg14 : ∀ k, k < 16 → jv_ckm (224 + k) = true := by decide +kernel
theorem jv_mg15 : ∀ k, k < 16 → jv_ckm (240 + k) = true := by decide +kernel
theorem jv_mg16 : ∀ k, k < 15 → jv_ckm (256 + k) = true := by decide +kernel
theorem jv_ckm_ok (y : Nat) (h : y < 271) : jv_ckm y = true := by
  by_cases h0 : y < 16
  · have := jv_mg0 (y - 0) (by omega); rwa [show 0 + (y - 0) = y by omega] at this
  by_cases h1 : y < 32
  · have := jv_mg1 (y - 16) (by omega); rwa [show 16 + (y - 16) = y by omega] at this
  by_cases h2 : y < 48
  · have := jv_mg2 (y - 32) (by omega); rwa [show 32 + (y - 32) = y by omega] at this
  by_cases h3 : y < 64
  · have := jv_mg3 (y - 48) (by omega); rwa [show 48 + (y - 48) = y by omega] at this
  by_cases h4 : y < 80
  · have := jv_mg4 (y - 64) (by omega); rwa [show 64 + (y - 64) = y by omega] at this
  by_cases h5 : y < 96
  · have := jv_mg5 (y - 80) (by omega); rwa [show 80 + (y - 80) = y by omega] at this
  by_cases h6 : y < 112
  · have := jv_mg6 (y - 96) (by omega); rwa [show 96 + (y - 96) = y by omega] at this
  by_cases h7 : y < 128
  · have := jv_mg7 (y - 112) (by omega); rwa [show 112 + (y - 112) = y by omega] at this
  by_cases h8 : y < 144
  · have := jv_mg8 (y - 128) (by omega); rwa [show 128 + (y - 128) = y by omega] at this
  by_cases h9 : y < 160
  · have := jv_mg9 (y - 144) (by omega); rwa [show 144 + (y - 144) = y by omega] at this
  by_cases h10 : y < 176
  · have := jv_mg10 (y - 160) (by omega); rwa [show 160 + (y - 160) = y by omega] at this
  by_cases h11 : y < 192
  · have := jv_mg11 (y - 176) (by omega); rwa [show 176 + (y - 176) = y by omega] at this
  by_cases h12 : y < 208
  · have := jv_mg12 (y - 192) (by omega); rwa [show 192 + (y - 192) = y by omega] at this
  by_cases h13 : y < 224
  · have := jv_mg13 (y - 208) (by omega); rwa [show 208 + (y - 208) = y by omega] at this
  by_cases h14 : y < 240
  · have := jv_mg14 (y - 224) (by omega); rwa [show 224 + (y - 224) = y by omega] at this
  by_cases h15 : y < 256
  · have := jv_mg15 (y - 240) (by omega); rwa [show 240 + (y - 240) = y by omega] at this
  by_cases h16 : y < 271
  · have := jv_mg16 (y - 256) (by omega); rwa [show 256 + (y - 256) = y by omega] at this
  omega
def jv_hfs : List (List (Nat × Nat)) := [[(11, 1198), (15, 1199), (19, 1200)],
  [(11, 2059), (16, 2061), (20, 2060)],
  [(12, 1144), (21, 1146), (25, 1151), (29, 1149), (36, 1147), (39, 1062), (49, 1150), (129, 1217), (132, 1221), (143, 1082), (148, 1077), (154, 1087), (156, 1092), (161, 1097), (163, 1102), (165, 1107), (167, 1112), (170, 1116), (172, 1122)],
  [(9, 1171), (15, 1173), (18, 1174), (27, 1215), (38, 1219), (44, 1225), (57, 1079), (66, 1084), (73, 1089), (82, 1094), (91, 1099), (94, 1104), (97, 1109), (104, 1114), (109, 1119)],
  [(9, 1059), (13, 1060)],
  [(11, 1209), (18, 1210), (22, 1211), (29, 1212), (33, 1214), (37, 1218), (43, 1222), (46, 1224), (49, 1227), (52, 1229), (55, 1231), (58, 1233), (61, 1235), (83, 1081), (90, 1086), (97, 1091), (108, 1121), (119, 1111), (122, 1106), (130, 1096), (137, 1101), (159, 1117)],
  [(9, 1075), (15, 1078), (18, 1083), (21, 1088), (24, 1093), (27, 1098), (30, 1103), (33, 1108), (36, 1113), (39, 1118)],
  [(10, 2072), (16, 1145), (20, 2071), (24, 2073), (31, 2074), (35, 2075), (41, 2076), (45, 2077), (49, 2078), (56, 2079), (60, 2080), (74, 1061), (85, 1148), (95, 1226), (122, 1076), (125, 1080), (128, 1085), (131, 1090), (134, 1115), (137, 1120), (144, 1213), (172, 1216), (175, 1220), (225, 1228), (228, 1223), (234, 2062), (247, 1230), (250, 1232), (253, 1234), (256, 1236), (265, 1201), (268, 1095), (271, 1100), (274, 1105), (277, 1110), (342, 1172), (343, 1175)],
  [(7, 5136), (13, 5137), (16, 5138), (19, 5139), (22, 5140), (25, 5141), (29, 5143), (32, 5145), (36, 5151), (121, 5144), (124, 5146), (127, 5147), (130, 5149), (133, 5148), (148, 5150), (196, 5142), (289, 5152)],
  [],
  []]
def jv_hf (ow i : Nat) : Nat := ((jv_nth jv_hfs ow).bind (fun a => jv_as a i)).getD 0
def jv_hcs : List (List (Nat × Nat)) := [[(3, 1197), (22, 3149), (28, 3145), (31, 3150)],
  [(1, 2056), (15, 2058), (23, 3131), (29, 3127), (33, 3134)],
  [(3, 1052), (11, 1055), (20, 1071), (33, 2145), (42, 2149), (46, 2153), (52, 2165), (57, 2175), (63, 2161), (85, 2271), (89, 2213), (93, 2221), (96, 2226), (100, 2217), (104, 2243), (110, 2255), (113, 2263), (116, 2267), (119, 2141), (122, 2133), (125, 2157), (134, 2230), (138, 2234), (139, 2239), (145, 2259), (151, 2282), (158, 2286), (174, 3074), (178, 3078)],
  [(3, 1170), (23, 4303), (32, 4313), (41, 4309), (47, 4319), (51, 4320), (62, 4325), (76, 4328), (85, 4333), (112, 5121), (118, 4307), (123, 4308)],
  [(1, 1058), (17, 2114)],
  [(3, 1188), (17, 1191), (28, 1194), (40, 2137), (64, 2251), (68, 3082), (72, 3094), (75, 3115), (79, 3116), (86, 2247), (93, 3199), (100, 3086), (104, 3241), (111, 3303), (115, 3208), (125, 3216), (133, 3219), (140, 3204), (144, 3212), (147, 3200), (150, 4199), (153, 4162), (156, 4128), (162, 3226), (166, 3222), (169, 3289), (172, 3195), (175, 3250), (178, 3265), (181, 4250), (185, 4251), (188, 4232), (191, 3293), (194, 4241), (197, 4289), (200, 4293)],
  [(3, 1074)],
  [(1, 1044), (9, 1049), (23, 1167), (30, 1185), (40, 2049), (55, 2053), (64, 2106), (70, 2110), (77, 2122), (81, 2129), (88, 3090), (92, 3098), (98, 3111), (102, 3117), (105, 3121), (108, 3122), (112, 3123), (115, 3135), (118, 3136), (140, 3140), (150, 3141), (154, 3158), (157, 3162), (160, 3166), (164, 3167), (168, 3171), (178, 3179), (181, 3187), (184, 3191), (188, 3230), (191, 3233), (195, 3237), (198, 3246), (201, 3251), (204, 3252), (207, 3253), (210, 3261), (213, 3269), (216, 3273), (219, 3281), (222, 3294), (231, 3299), (235, 4103), (238, 4111), (241, 4112), (244, 4116), (259, 4120), (262, 4124), (280, 4136), (284, 4137), (287, 4145), (290, 4153), (293, 4158), (296, 4166), (299, 4170), (302, 4174), (305, 4182), (308, 4183), (311, 4187), (314, 4195), (317, 4216), (320, 4228), (323, 4237), (326, 4246), (329, 4264), (332, 4284), (335, 4285), (338, 4298), (346, 3285)],
  [(1, 5135), (42, 5289), (46, 5239), (50, 5316), (54, 5251), (58, 5286), (62, 5283), (65, 5357), (68, 6144), (72, 6147), (75, 6150), (78, 5354), (81, 5351), (85, 6153), (89, 5280), (93, 5348), (97, 5248), (100, 6176), (104, 6173), (108, 6190), (112, 5345), (115, 6199), (118, 6196), (136, 5210), (139, 5214), (142, 5218), (145, 5222), (152, 5206), (155, 5231), (159, 5227), (162, 5235), (165, 5257), (168, 5260), (171, 5254), (174, 5263), (178, 5267), (183, 5273), (193, 5244), (199, 5296), (202, 5300), (205, 5304), (208, 5308), (212, 5320), (216, 5324), (219, 5331), (222, 5338), (225, 5342), (228, 6156), (231, 6163), (234, 6170), (237, 6179), (240, 6186), (243, 6193), (246, 6210), (250, 6206), (253, 6244), (256, 6230), (259, 6233), (262, 6237), (265, 6240), (268, 6252), (271, 6260), (274, 6271), (277, 6279), (280, 6275), (283, 6287), (286, 6291), (292, 6359), (295, 6363), (298, 6355), (301, 6371), (304, 7175), (307, 6383), (310, 7171), (313, 7183), (317, 7187), (320, 7191), (323, 7179), (326, 6379)],
  [],
  [(9, 1041), (12, 5132), (13, 2102), (17, 5190), (18, 2118), (22, 5194), (23, 2125), (27, 5202), (28, 3103), (31, 5198), (32, 3107), (35, 5292), (36, 3154), (40, 5312), (41, 3175), (44, 5327), (45, 3183), (48, 5334), (49, 3242), (53, 6159), (54, 3257), (57, 6166), (58, 3277), (61, 6182), (62, 3295), (65, 6202), (66, 3307), (69, 6214), (70, 3311), (73, 6218), (74, 4099), (77, 6222), (78, 4107), (81, 6226), (82, 4132), (85, 6248), (86, 4141), (89, 6256), (90, 4149), (93, 6263), (94, 4154), (97, 6267), (98, 4178), (101, 6283), (102, 4191), (105, 6295), (106, 4200), (109, 6299), (110, 4204), (113, 6303), (114, 4208), (117, 6307), (118, 4212), (121, 6311), (122, 4220), (125, 6315), (126, 4224), (129, 6319), (130, 4233), (133, 6323), (134, 4242), (137, 6327), (138, 4252), (141, 6331), (142, 4256), (145, 6335), (146, 4260), (149, 6339), (150, 4268), (154, 6343), (155, 4272), (159, 6347), (160, 4276), (163, 6351), (164, 4280), (167, 6367), (168, 4294), (171, 6375), (172, 5126), (175, 7195)]]
def jv_hc (ow i : Nat) : Nat := ((jv_nth jv_hcs ow).bind (fun a => jv_as a i)).getD 0
def jv_hns : List (List (Nat × Nat)) := [[],
  [(9, 2057)],
  [(9, 1053), (18, 1069)],
  [],
  [],
  [(9, 1189), (26, 1192)],
  [],
  [(7, 1047), (21, 1165), (28, 1183), (38, 2048), (53, 2051)],
  [],
  [],
  [(7, 1039), (10, 5130)]]
def jv_hn (ow i : Nat) : Nat := ((jv_nth jv_hns ow).bind (fun a => jv_as a i)).getD 0
def jv_hls : List (List (Nat × Nat)) := [[],
  [],
  [(61, 2156), (67, 2225), (69, 2238), (71, 2275), (73, 2276), (75, 2277), (77, 2278), (79, 2279), (81, 2280), (83, 2281)],
  [(21, 4302), (36, 4318), (55, 4324), (69, 4326), (71, 4327), (80, 4332), (89, 5122), (100, 5123), (102, 5124), (107, 5125), (117, 4317)],
  [],
  [],
  [],
  [],
  [(177, 5266), (181, 5271), (182, 5272), (187, 5277), (188, 5278), (189, 5279), (190, 5226), (191, 5242), (192, 5243)],
  [],
  []]
def jv_hl (ow i : Nat) : Nat := ((jv_nth jv_hls ow).bind (fun a => jv_as a i)).getD 0
/-- the classes -/
theorem jv_cls_ok : ∀ c, c < 9 → vwCl[c]? = some (jv_own c, jv_fT c, jv_fn c) := by
  intro c h
  match c, h with
  | 0, _ => rfl
  | 1, _ => rfl
  | 2, _ => rfl
  | 3, _ => rfl
  | 4, _ => rfl
  | 5, _ => rfl
  | 6, _ => rfl
  | 7, _ => rfl
  | 8, _ => rfl
  | c + 9, h => omega
/-- links to private members of nest mates: no words of the tables, carried beside them -/
def jv_nests : List Cond := [.methodLinkNest (jv_own 2) 20 (jv_ym 101).1 "SeatSwap", .methodLinkNest (jv_own 5) 17 (jv_ym 101).1 "SeatSwap", .methodLinkNest (jv_own 5) 79 (jv_ym 147).1 "SeatSwap", .methodLinkNest (jv_own 7) 23 (jv_ym 33).1 "SeatSwap", .methodLinkNest (jv_own 7) 40 (jv_ym 101).1 "SeatSwap"]
theorem jv_nests_in : ∀ w ∈ jv_nests, w ∈ lw_tbl := by
  intro w hw
  have h : jv_nests = ([125, 245, 602, 221, 319] : List Nat).filterMap (fun i => lw_tbl[i]?) := by decide +kernel
  rw [h] at hw
  obtain ⟨i, -, hi⟩ := List.mem_filterMap.mp hw
  exact List.mem_of_getElem? hi
def jv_ckf1 (ow : Nat) (q : Nat × Nat × Nat) : Bool := decide (q.2.1 < 9 ∧ q.2.2 < jv_fn q.2.1) && jv_in (jv_hf ow q.1) (.fieldLink (jv_own ow) q.1 (jv_fT q.2.1 q.2.2).1 (jv_fT q.2.1 q.2.2).2.1 (jv_fT q.2.1 q.2.2).2.2.1)
def jv_ckc1 (ow : Nat) (q : Nat × Nat × Nat × Nat) : Bool :=
  if q.2.1 = 900 then jv_in (jv_hc ow q.1) (.methodLink (jv_own ow) q.1 Lib.objectInit)
  else if q.2.1 = 901 then jv_in (jv_hc ow q.1) (.methodLink (jv_own ow) q.1 yJ0_length_8abf5)
  else if q.2.1 = 902 then jv_in (jv_hc ow q.1) (.methodLink (jv_own ow) q.1 yJ0_charAt_5068e)
  else match jv_inf q.2.1 with
  | some (_, _, na, _) => decide (na = q.2.2.1 ∧ q.2.1 < 271) && (if q.2.2.2 = 0 then jv_in (jv_hc ow q.1) (.methodLink (jv_own ow) q.1 (jv_ym q.2.1).1) else decide (Cond.methodLinkNest (jv_own ow) q.1 (jv_ym q.2.1).1 "SeatSwap" ∈ jv_nests))
  | none => false
def jv_ckn1 (ow : Nat) (q : Nat × Nat) : Bool := decide (q.2 < 9) && jv_in (jv_hn ow q.1) (.classLink (jv_own ow) q.1 (jv_own q.2))
def jv_ckl1 (ow : Nat) (q : Nat × Value) : Bool := match q.2 with
  | .int v => jv_in (jv_hl ow q.1) (.constant (jv_own ow) q.1 v)
  | .ref a => match jv_tix a with
    | some i => match jv_str[i]? with
      | some (own, idx, _) => decide (own = jv_own ow ∧ idx = q.1)
      | none => false
    | none => false
  | _ => false
theorem jv_kf0 : (jv_fld0).all (jv_ckf1 0) = true := by decide +kernel
theorem jv_kf1 : (jv_fld1).all (jv_ckf1 1) = true := by decide +kernel
theorem jv_kf2 : (jv_fld2).all (jv_ckf1 2) = true := by decide +kernel
theorem jv_kf3 : (jv_fld3).all (jv_ckf1 3) = true := by decide +kernel
theorem jv_kf4 : (jv_fld4).all (jv_ckf1 4) = true := by decide +kernel
theorem jv_kf5 : (jv_fld5).all (jv_ckf1 5) = true := by decide +kernel
theorem jv_kf6 : (jv_fld6).all (jv_ckf1 6) = true := by decide +kernel
theorem jv_kf7 : (jv_fld7).all (jv_ckf1 7) = true := by decide +kernel
theorem jv_kf8 : (jv_fld8).all (jv_ckf1 8) = true := by decide +kernel
theorem jv_kf9 : (jv_fld9).all (jv_ckf1 9) = true := by decide +kernel
theorem jv_kf10 : (jv_fld10).all (jv_ckf1 10) = true := by decide +kernel
theorem jv_ckf_ok {ow i : Nat} {v : Nat × Nat} (h : jv_fld ow i = some v) : jv_ckf1 ow (i, v) = true := by
  unfold jv_fld at h
  split at h
  · cases h
  · rename_i a ha
    have hm := jv_as_mem a h
    match ow, ha with
    | 0, ha => cases ha; exact List.all_eq_true.mp jv_kf0 _ hm
    | 1, ha => cases ha; exact List.all_eq_true.mp jv_kf1 _ hm
    | 2, ha => cases ha; exact List.all_eq_true.mp jv_kf2 _ hm
    | 3, ha => cases ha; exact List.all_eq_true.mp jv_kf3 _ hm
    | 4, ha => cases ha; exact List.all_eq_true.mp jv_kf4 _ hm
    | 5, ha => cases ha; exact List.all_eq_true.mp jv_kf5 _ hm
    | 6, ha => cases ha; exact List.all_eq_true.mp jv_kf6 _ hm
    | 7, ha => cases ha; exact List.all_eq_true.mp jv_kf7 _ hm
    | 8, ha => cases ha; exact List.all_eq_true.mp jv_kf8 _ hm
    | 9, ha => cases ha; exact List.all_eq_true.mp jv_kf9 _ hm
    | 10, ha => cases ha; exact List.all_eq_true.mp jv_kf10 _ hm
    | ow + 11, ha => rw [show jv_nth jv_flds (ow + 11) = jv_nth ([] : List (List (Nat × Nat × Nat))) ow from rfl, jv_nil] at ha; cases ha
theorem jv_kc0 : (jv_cal0).all (jv_ckc1 0) = true := by decide +kernel
theorem jv_kc1 : (jv_cal1).all (jv_ckc1 1) = true := by decide +kernel
theorem jv_kc2 : (jv_cal2).all (jv_ckc1 2) = true := by decide +kernel
theorem jv_kc3 : (jv_cal3).all (jv_ckc1 3) = true := by decide +kernel
theorem jv_kc4 : (jv_cal4).all (jv_ckc1 4) = true := by decide +kernel
theorem jv_kc5 : (jv_cal5).all (jv_ckc1 5) = true := by decide +kernel
theorem jv_kc6 : (jv_cal6).all (jv_ckc1 6) = true := by decide +kernel
theorem jv_kc7 : (jv_cal7).all (jv_ckc1 7) = true := by decide +kernel
theorem jv_kc8 : (jv_cal8).all (jv_ckc1 8) = true := by decide +kernel
theorem jv_kc9 : (jv_cal9).all (jv_ckc1 9) = true := by decide +kernel
theorem jv_kc10 : (jv_cal10).all (jv_ckc1 10) = true := by decide +kernel
theorem jv_ckc_ok {ow i : Nat} {v : Nat × Nat × Nat} (h : jv_cal ow i = some v) : jv_ckc1 ow (i, v) = true := by
  unfold jv_cal at h
  split at h
  · cases h
  · rename_i a ha
    have hm := jv_as_mem a h
    match ow, ha with
    | 0, ha => cases ha; exact List.all_eq_true.mp jv_kc0 _ hm
    | 1, ha => cases ha; exact List.all_eq_true.mp jv_kc1 _ hm
    | 2, ha => cases ha; exact List.all_eq_true.mp jv_kc2 _ hm
    | 3, ha => cases ha; exact List.all_eq_true.mp jv_kc3 _ hm
    | 4, ha => cases ha; exact List.all_eq_true.mp jv_kc4 _ hm
    | 5, ha => cases ha; exact List.all_eq_true.mp jv_kc5 _ hm
    | 6, ha => cases ha; exact List.all_eq_true.mp jv_kc6 _ hm
    | 7, ha => cases ha; exact List.all_eq_true.mp jv_kc7 _ hm
    | 8, ha => cases ha; exact List.all_eq_true.mp jv_kc8 _ hm
    | 9, ha => cases ha; exact List.all_eq_true.mp jv_kc9 _ hm
    | 10, ha => cases ha; exact List.all_eq_true.mp jv_kc10 _ hm
    | ow + 11, ha => rw [show jv_nth jv_cals (ow + 11) = jv_nth ([] : List (List (Nat × Nat × Nat × Nat))) ow from rfl, jv_nil] at ha; cases ha
theorem jv_kn0 : (jv_new0).all (jv_ckn1 0) = true := by decide +kernel
theorem jv_kn1 : (jv_new1).all (jv_ckn1 1) = true := by decide +kernel
theorem jv_kn2 : (jv_new2).all (jv_ckn1 2) = true := by decide +kernel
theorem jv_kn3 : (jv_new3).all (jv_ckn1 3) = true := by decide +kernel
theorem jv_kn4 : (jv_new4).all (jv_ckn1 4) = true := by decide +kernel
theorem jv_kn5 : (jv_new5).all (jv_ckn1 5) = true := by decide +kernel
theorem jv_kn6 : (jv_new6).all (jv_ckn1 6) = true := by decide +kernel
theorem jv_kn7 : (jv_new7).all (jv_ckn1 7) = true := by decide +kernel
theorem jv_kn8 : (jv_new8).all (jv_ckn1 8) = true := by decide +kernel
theorem jv_kn9 : (jv_new9).all (jv_ckn1 9) = true := by decide +kernel
theorem jv_kn10 : (jv_new10).all (jv_ckn1 10) = true := by decide +kernel
theorem jv_ckn_ok {ow i : Nat} {v : Nat} (h : jv_new ow i = some v) : jv_ckn1 ow (i, v) = true := by
  unfold jv_new at h
  split at h
  · cases h
  · rename_i a ha
    have hm := jv_as_mem a h
    match ow, ha with
    | 0, ha => cases ha; exact List.all_eq_true.mp jv_kn0 _ hm
    | 1, ha => cases ha; exact List.all_eq_true.mp jv_kn1 _ hm
    | 2, ha => cases ha; exact List.all_eq_true.mp jv_kn2 _ hm
    | 3, ha => cases ha; exact List.all_eq_true.mp jv_kn3 _ hm
    | 4, ha => cases ha; exact List.all_eq_true.mp jv_kn4 _ hm
    | 5, ha => cases ha; exact List.all_eq_true.mp jv_kn5 _ hm
    | 6, ha => cases ha; exact List.all_eq_true.mp jv_kn6 _ hm
    | 7, ha => cases ha; exact List.all_eq_true.mp jv_kn7 _ hm
    | 8, ha => cases ha; exact List.all_eq_true.mp jv_kn8 _ hm
    | 9, ha => cases ha; exact List.all_eq_true.mp jv_kn9 _ hm
    | 10, ha => cases ha; exact List.all_eq_true.mp jv_kn10 _ hm
    | ow + 11, ha => rw [show jv_nth jv_news (ow + 11) = jv_nth ([] : List (List (Nat × Nat))) ow from rfl, jv_nil] at ha; cases ha
theorem jv_kl0 : (jv_ldc0).all (jv_ckl1 0) = true := by decide +kernel
theorem jv_kl1 : (jv_ldc1).all (jv_ckl1 1) = true := by decide +kernel
theorem jv_kl2 : (jv_ldc2).all (jv_ckl1 2) = true := by decide +kernel
theorem jv_kl3 : (jv_ldc3).all (jv_ckl1 3) = true := by decide +kernel
theorem jv_kl4 : (jv_ldc4).all (jv_ckl1 4) = true := by decide +kernel
theorem jv_kl5 : (jv_ldc5).all (jv_ckl1 5) = true := by decide +kernel
theorem jv_kl6 : (jv_ldc6).all (jv_ckl1 6) = true := by decide +kernel
theorem jv_kl7 : (jv_ldc7).all (jv_ckl1 7) = true := by decide +kernel
theorem jv_kl8 : (jv_ldc8).all (jv_ckl1 8) = true := by decide +kernel
theorem jv_kl9 : (jv_ldc9).all (jv_ckl1 9) = true := by decide +kernel
theorem jv_kl10 : (jv_ldc10).all (jv_ckl1 10) = true := by decide +kernel
theorem jv_ckl_ok {ow i : Nat} {v : Value} (h : jv_ldc ow i = some v) : jv_ckl1 ow (i, v) = true := by
  unfold jv_ldc at h
  split at h
  · cases h
  · rename_i a ha
    have hm := jv_as_mem a h
    match ow, ha with
    | 0, ha => cases ha; exact List.all_eq_true.mp jv_kl0 _ hm
    | 1, ha => cases ha; exact List.all_eq_true.mp jv_kl1 _ hm
    | 2, ha => cases ha; exact List.all_eq_true.mp jv_kl2 _ hm
    | 3, ha => cases ha; exact List.all_eq_true.mp jv_kl3 _ hm
    | 4, ha => cases ha; exact List.all_eq_true.mp jv_kl4 _ hm
    | 5, ha => cases ha; exact List.all_eq_true.mp jv_kl5 _ hm
    | 6, ha => cases ha; exact List.all_eq_true.mp jv_kl6 _ hm
    | 7, ha => cases ha; exact List.all_eq_true.mp jv_kl7 _ hm
    | 8, ha => cases ha; exact List.all_eq_true.mp jv_kl8 _ hm
    | 9, ha => cases ha; exact List.all_eq_true.mp jv_kl9 _ hm
    | 10, ha => cases ha; exact List.all_eq_true.mp jv_kl10 _ hm
    | ow + 11, ha => rw [show jv_nth jv_ldcs (ow + 11) = jv_nth ([] : List (List (Nat × Value))) ow from rfl, jv_nil] at ha; cases ha
def jv_hl100 : List Nat := [1202, 1204, 1206]
theorem jv_lay0 : (List.range (jv_fn 0)).all (fun k => jv_in (jv_hl100.getD k 0) (u_lay (jv_own 0) (jv_fT 0) k)) = true := by decide +kernel
def jv_hl101 : List Nat := [2063, 2065, 2067]
theorem jv_lay1 : (List.range (jv_fn 1)).all (fun k => jv_in (jv_hl101.getD k 0) (u_lay (jv_own 1) (jv_fT 1) k)) = true := by decide +kernel
def jv_hl102 : List Nat := [1152, 1154, 1156, 1158, 1160, 1162]
theorem jv_lay2 : (List.range (jv_fn 2)).all (fun k => jv_in (jv_hl102.getD k 0) (u_lay (jv_own 2) (jv_fT 2) k)) = true := by decide +kernel
def jv_hl103 : List Nat := [1176, 1178, 1180]
theorem jv_lay3 : (List.range (jv_fn 3)).all (fun k => jv_in (jv_hl103.getD k 0) (u_lay (jv_own 3) (jv_fT 3) k)) = true := by decide +kernel
def jv_hl104 : List Nat := [1063, 1065]
theorem jv_lay4 : (List.range (jv_fn 4)).all (fun k => jv_in (jv_hl104.getD k 0) (u_lay (jv_own 4) (jv_fT 4) k)) = true := by decide +kernel
def jv_hl105 : List Nat := [1237, 1239, 1241, 1243, 1245, 1247, 1249, 1251, 1253, 1255, 1257, 1259, 1261]
theorem jv_lay5 : (List.range (jv_fn 5)).all (fun k => jv_in (jv_hl105.getD k 0) (u_lay (jv_own 5) (jv_fT 5) k)) = true := by decide +kernel
def jv_hl106 : List Nat := [1123, 1125, 1127, 1129, 1131, 1133, 1135, 1137, 1139, 1141]
theorem jv_lay6 : (List.range (jv_fn 6)).all (fun k => jv_in (jv_hl106.getD k 0) (u_lay (jv_own 6) (jv_fT 6) k)) = true := by decide +kernel
def jv_hl107 : List Nat := [2081, 2083, 2085, 2087, 2089, 2091, 2093, 2095, 2097, 2099]
theorem jv_lay7 : (List.range (jv_fn 7)).all (fun k => jv_in (jv_hl107.getD k 0) (u_lay (jv_own 7) (jv_fT 7) k)) = true := by decide +kernel
def jv_hl108 : List Nat := [5153, 5155, 5157, 5159, 5161, 5163, 5165, 5167, 5169, 5171, 5173, 5175, 5177, 5179, 5181, 5183, 5185, 5187]
theorem jv_lay8 : (List.range (jv_fn 8)).all (fun k => jv_in (jv_hl108.getD k 0) (u_lay (jv_own 8) (jv_fT 8) k)) = true := by decide +kernel
theorem jv_ws_in (c : Nat) (h : c < 9) : ∀ w ∈ u_ws (jv_own c) (jv_fT c) (jv_fn c), w ∈ jv_T := by
  intro w hw
  obtain ⟨k, hk, rfl⟩ := List.mem_map.mp hw
  match c, h with
  | 0, _ => exact jv_in_ok (List.all_eq_true.mp jv_lay0 k hk)
  | 1, _ => exact jv_in_ok (List.all_eq_true.mp jv_lay1 k hk)
  | 2, _ => exact jv_in_ok (List.all_eq_true.mp jv_lay2 k hk)
  | 3, _ => exact jv_in_ok (List.all_eq_true.mp jv_lay3 k hk)
  | 4, _ => exact jv_in_ok (List.all_eq_true.mp jv_lay4 k hk)
  | 5, _ => exact jv_in_ok (List.all_eq_true.mp jv_lay5 k hk)
  | 6, _ => exact jv_in_ok (List.all_eq_true.mp jv_lay6 k hk)
  | 7, _ => exact jv_in_ok (List.all_eq_true.mp jv_lay7 k hk)
  | 8, _ => exact jv_in_ok (List.all_eq_true.mp jv_lay8 k hk)
  | c + 9, h => omega
theorem jv_ty_ok (c : Nat) (h : c < 9) : ∀ k, k < jv_fn c → parseFieldDescriptor (jv_fT c k).2.2.1 = some (jv_fty c k) := by
  match c, h with
  | 0, _ => exact tyX0_ok
  | 1, _ => exact tyX1_ok
  | 2, _ => exact tyX2_ok
  | 3, _ => exact tyX3_ok
  | 4, _ => exact tyX4_ok
  | 5, _ => exact tyX5_ok
  | 6, _ => exact tyX6_ok
  | 7, _ => exact tyX7_ok
  | 8, _ => exact tyX8_ok
  | c + 9, h => omega
theorem jv_nm_ok (c : Nat) (h : c < 9) : ∀ a, a < jv_fn c → ∀ b, b < jv_fn c → a ≠ b → (jv_fT c a).2.1 ≠ (jv_fT c b).2.1 := by
  match c, h with
  | 0, _ => exact nmX0
  | 1, _ => exact nmX1
  | 2, _ => exact nmX2
  | 3, _ => exact nmX3
  | 4, _ => exact nmX4
  | 5, _ => exact nmX5
  | 6, _ => exact nmX6
  | 7, _ => exact nmX7
  | 8, _ => exact nmX8
  | c + 9, h => omega
theorem jv_dcl_ok : ∀ c, c < 9 → ∀ k, k < jv_fn c → (jv_fT c k).1 = jv_own c := by decide +kernel
theorem jv_inst_ok : ∀ c, c < 9 → jv_in (([1193, 2052, 1048, 1166, 1054, 1184, 1070, 1040, 5131] : List Nat).getD c 0) (.instantiable (jv_own c) (jv_fn c)) = true ∧ jv_in (([1031, 1032, 1026, 1029, 1027, 1030, 1028, 1025, 1033] : List Nat).getD c 0) (.initialized (jv_own c)) = true := by decide +kernel
theorem jv_arrI : jv_in 1068 (.arrayClass .int) = true := by decide +kernel
theorem jv_arrZ : jv_in 2070 (.arrayClass .boolean) = true := by decide +kernel
theorem jv_arrT6 : Cond.arrayOver (.object "SeatSwap$Traveller") ∈ lw_tbl := List.mem_of_getElem? (i := 244) (by decide +kernel)
theorem jv_arrT5 : Cond.arrayOver (.object "SeatSwap$Train") ∈ lw_tbl := List.mem_of_getElem? (i := 320) (by decide +kernel)
theorem jv_obI : jv_in 1045 (.instanceMethod Lib.objectInit) = true := by decide +kernel
theorem jv_obC : jv_in 1046 (.code Lib.objectInit ⟨#[0xb1]⟩ 1 none) = true := by decide +kernel
