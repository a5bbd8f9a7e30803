/-! THE LAW'S RUN -/
theorem sA_run1 {e f a b c d : Nat} {n : Nat} (hr : sm_run s_no sc_meth n (s_env1 e f a b c d) (271, 18, sc_l18, sKL, []) [] sh0 = true) {L : Nat} {xs ρ : Nat → Int32} (hρ : sRho L xs ρ) (h1 : e ≤ sb (ρ 1) ∧ sb (ρ 1) ≤ f) (h6 : a ≤ L + 2147483648 ∧ L + 2147483648 ≤ b) (h7 : c ≤ sb (ρ 7) ∧ sb (ρ 7) ≤ d) {h : jv_H} {Lv : List (Option Value)} (hL : sL ρ sKL Lv) (hH : sHk ρ L xs sh0 h) : sG [] 271 18 Lv [] h :=
  sm_sound (fun _ _ _ _ q => by cases q) n _ _ _ _ hr L xs ρ hρ (sEk_of h1 (by rw [(sRho_6 hρ).1]; exact h6) h7) [] Lv [] h (by decide) sc_l18_ok hL rfl rfl hH
theorem sA_run {a b c d : Nat} {n : Nat} (hr : sm_run s_no sc_meth n (s_env a b c d) (271, 18, sc_l18, sKL, []) [] sh0 = true) {L : Nat} {xs ρ : Nat → Int32} (hρ : sRho L xs ρ) (h6 : a ≤ L + 2147483648 ∧ L + 2147483648 ≤ b) (h7 : c ≤ sb (ρ 7) ∧ sb (ρ 7) ≤ d) {h : jv_H} {Lv : List (Option Value)} (hL : sL ρ sKL Lv) (hH : sHk ρ L xs sh0 h) : sG [] 271 18 Lv [] h :=
  sA_run1 hr hρ (s_full _) h6 h7 hL hH
theorem sA_op11 {L : Nat} {xs ρ : Nat → Int32} (hρ : sRho L xs ρ) (h6 : 2147483654 ≤ L + 2147483648 ∧ L + 2147483648 ≤ 2147483654) (h7 : 2147483659 ≤ sb (ρ 7) ∧ sb (ρ 7) ≤ 2147483659) {h : jv_H} {Lv : List (Option Value)} (hL : sL ρ sKL Lv) (hH : sHk ρ L xs sh0 h) : sG [] 271 18 Lv [] h := by
  have hm := (s_full (ρ 1)).2
  by_cases q0 : sb (ρ 1) ≤ 2147483648
  · exact sA_run1 sr_op11_0 hρ ⟨by omega, q0⟩ h6 h7 hL hH
  by_cases q1 : sb (ρ 1) ≤ 2147483651
  · exact sA_run1 sr_op11_1 hρ ⟨by omega, q1⟩ h6 h7 hL hH
  by_cases q2 : sb (ρ 1) ≤ 2147483654
  · exact sA_run1 sr_op11_2 hρ ⟨by omega, q2⟩ h6 h7 hL hH
  by_cases q3 : sb (ρ 1) ≤ 2147483657
  · exact sA_run1 sr_op11_3 hρ ⟨by omega, q3⟩ h6 h7 hL hH
  by_cases q4 : sb (ρ 1) ≤ 2147483660
  · exact sA_run1 sr_op11_4 hρ ⟨by omega, q4⟩ h6 h7 hL hH
  by_cases q5 : sb (ρ 1) ≤ 2147483663
  · exact sA_run1 sr_op11_5 hρ ⟨by omega, q5⟩ h6 h7 hL hH
  by_cases q6 : sb (ρ 1) ≤ 2147483666
  · exact sA_run1 sr_op11_6 hρ ⟨by omega, q6⟩ h6 h7 hL hH
  by_cases q7 : sb (ρ 1) ≤ 2147483669
  · exact sA_run1 sr_op11_7 hρ ⟨by omega, q7⟩ h6 h7 hL hH
  by_cases q8 : sb (ρ 1) ≤ 2147483672
  · exact sA_run1 sr_op11_8 hρ ⟨by omega, q8⟩ h6 h7 hL hH
  by_cases q9 : sb (ρ 1) ≤ 2147483675
  · exact sA_run1 sr_op11_9 hρ ⟨by omega, q9⟩ h6 h7 hL hH
  by_cases q10 : sb (ρ 1) ≤ 2147483678
  · exact sA_run1 sr_op11_10 hρ ⟨by omega, q10⟩ h6 h7 hL hH
  by_cases q11 : sb (ρ 1) ≤ 2147483681
  · exact sA_run1 sr_op11_11 hρ ⟨by omega, q11⟩ h6 h7 hL hH
  by_cases q12 : sb (ρ 1) ≤ 2147483684
  · exact sA_run1 sr_op11_12 hρ ⟨by omega, q12⟩ h6 h7 hL hH
  by_cases q13 : sb (ρ 1) ≤ 2147483687
  · exact sA_run1 sr_op11_13 hρ ⟨by omega, q13⟩ h6 h7 hL hH
  by_cases q14 : sb (ρ 1) ≤ 2147483690
  · exact sA_run1 sr_op11_14 hρ ⟨by omega, q14⟩ h6 h7 hL hH
  by_cases q15 : sb (ρ 1) ≤ 2147483693
  · exact sA_run1 sr_op11_15 hρ ⟨by omega, q15⟩ h6 h7 hL hH
  by_cases q16 : sb (ρ 1) ≤ 2147483696
  · exact sA_run1 sr_op11_16 hρ ⟨by omega, q16⟩ h6 h7 hL hH
  by_cases q17 : sb (ρ 1) ≤ 2147483698
  · exact sA_run1 sr_op11_17 hρ ⟨by omega, q17⟩ h6 h7 hL hH
  exact sA_run1 sr_op11_18 hρ ⟨by omega, hm⟩ h6 h7 hL hH
theorem sAt_0 : sAt sh0 sKL := by
  intro L xs ρ hρ h Lv hL hH
  have hL6 := (sRho_6 hρ).2
  obtain ⟨k, hk, h7⟩ := sRho_7 hρ
  by_cases hs : L < 6
  · exact sA_run sr_short hρ (by omega) (by omega) hL hH
  · by_cases h39 : 39 ≤ k
    · exact sA_run sr_rest hρ (by omega) (by omega) hL hH
    · have e6 : 2147483654 ≤ L + 2147483648 ∧ L + 2147483648 ≤ 2147483654 := by omega
      match k, h39, h7 with
      | 0, _, h7 => exact sA_run sr_op0 hρ e6 (by omega) hL hH
      | 1, _, h7 => exact sA_run sr_op1 hρ e6 (by omega) hL hH
      | 2, _, h7 => exact sA_run sr_op2 hρ e6 (by omega) hL hH
      | 3, _, h7 => exact sA_run sr_op3 hρ e6 (by omega) hL hH
      | 4, _, h7 => exact sA_run sr_op4 hρ e6 (by omega) hL hH
      | 5, _, h7 => exact sA_run sr_op5 hρ e6 (by omega) hL hH
      | 6, _, h7 => exact sA_run sr_op6 hρ e6 (by omega) hL hH
      | 7, _, h7 => exact sA_run sr_op7 hρ e6 (by omega) hL hH
      | 8, _, h7 => exact sA_run sr_op8 hρ e6 (by omega) hL hH
      | 9, _, h7 => exact sA_run sr_op9 hρ e6 (by omega) hL hH
      | 10, _, h7 => exact sA_run sr_op10 hρ e6 (by omega) hL hH
      | 11, _, h7 => exact sA_op11 hρ e6 (by omega) hL hH
      | 12, _, h7 => exact sA_run sr_op12 hρ e6 (by omega) hL hH
      | 13, _, h7 => exact sA_run sr_op13 hρ e6 (by omega) hL hH
      | 14, _, h7 => exact sA_run sr_op14 hρ e6 (by omega) hL hH
      | 15, _, h7 => exact sA_run sr_op15 hρ e6 (by omega) hL hH
      | 16, _, h7 => exact sA_run sr_op16 hρ e6 (by omega) hL hH
      | 17, _, h7 => exact sA_run sr_op17 hρ e6 (by omega) hL hH
      | 18, _, h7 => exact sA_run sr_op18 hρ e6 (by omega) hL hH
      | 19, _, h7 => exact sA_run sr_op19 hρ e6 (by omega) hL hH
      | 20, _, h7 => exact sA_run sr_op20 hρ e6 (by omega) hL hH
      | 21, _, h7 => exact sA_run sr_op21 hρ e6 (by omega) hL hH
      | 22, _, h7 => exact sA_run sr_op22 hρ e6 (by omega) hL hH
      | 23, _, h7 => exact sA_run sr_op23 hρ e6 (by omega) hL hH
      | 24, _, h7 => exact sA_run sr_op24 hρ e6 (by omega) hL hH
      | 25, _, h7 => exact sA_run sr_op25 hρ e6 (by omega) hL hH
      | 26, _, h7 => exact sA_run sr_op26 hρ e6 (by omega) hL hH
      | 27, _, h7 => exact sA_run sr_op27 hρ e6 (by omega) hL hH
      | 28, _, h7 => exact sA_run sr_op28 hρ e6 (by omega) hL hH
      | 29, _, h7 => exact sA_run sr_op29 hρ e6 (by omega) hL hH
      | 30, _, h7 => exact sA_run sr_op30 hρ e6 (by omega) hL hH
      | 31, _, h7 => exact sA_run sr_op31 hρ e6 (by omega) hL hH
      | 32, _, h7 => exact sA_run sr_op32 hρ e6 (by omega) hL hH
      | 33, _, h7 => exact sA_run sr_op33 hρ e6 (by omega) hL hH
      | 34, _, h7 => exact sA_run sr_op34 hρ e6 (by omega) hL hH
      | 35, _, h7 => exact sA_run sr_op35 hρ e6 (by omega) hL hH
      | 36, _, h7 => exact sA_run sr_op36 hρ e6 (by omega) hL hH
      | 37, _, h7 => exact sA_run sr_op37 hρ e6 (by omega) hL hH
      | 38, _, h7 => exact sA_run sr_op38 hρ e6 (by omega) hL hH
      | k + 39, h39, _ => exact absurd (Nat.le_add_left 39 k) h39
theorem jv_law_ok : jv_law 6 := by
  intro L xs hL6
  obtain ⟨ρ, hρd⟩ : ∃ ρ : Nat → Int32, ρ = fun k => if k < 6 then xs k else if k = 6 then Int32.ofNat L else xs 0 &&& 63 := ⟨_, rfl⟩
  have hρ : sRho L xs ρ := by
    subst hρd
    exact ⟨hL6, fun k hk => if_pos hk, rfl, rfl⟩
  obtain ⟨k, hk, h7⟩ := sRho_7 hρ
  have h6 := (sRho_6 hρ).1
  have hg := sm_sound (s_stop_ok sAt_0) _ _ _ _ _ sr_first L xs ρ hρ (sEk_of (s_full _) (by omega) (by omega)) [] jv_L0 [] (jv_h0 L xs) (by decide) (sc_ok 271 (by decide)) ⟨some (.ref 1000000), _, rfl, ⟨rfl, by decide⟩, none, _, rfl, rfl, none, _, rfl, rfl, none, _, rfl, rfl, none, _, rfl, rfl, none, _, rfl, rfl, none, _, rfl, rfl, none, _, rfl, rfl, rfl⟩ rfl rfl ⟨rfl, rfl, by decide, rfl, fun a ha => absurd ha (Nat.not_lt_zero a)⟩
  obtain ⟨h', ⟨N, hN⟩, h1, h2⟩ := hg
  exact ⟨N, h', hN N (Nat.le_refl N), h1, h2⟩
