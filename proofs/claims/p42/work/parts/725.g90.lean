/-! THE REFERENCE: what must stand, and what may -/
theorem rPl_b {T : gW} {L S : Nat} (h : S ≤ L) : rPl T L S ≤ L := by
  have a := rnE_b (c := 2) (T := T) h
  have b := rnE_b (c := 3) (T := T) h
  unfold rPl
  split
  · omega
  · split
    · omega
    · split <;> omega
theorem rNx_far {σ : gS} {q : Nat} (h : ¬ q = 323) : rNx σ q = σ q := by
  rw [rNx_e]
  funext j
  unfold rNx4
  rw [if_neg h]
theorem rNx_3 {σ : gS} {j : Nat} (h : j < 11 ∨ 14 < j) : rNx σ 323 j = σ 323 j := by
  rw [rNx_e]
  unfold rNx4
  rw [if_pos rfl, if_neg (by omega), if_neg (by omega), if_neg (by omega), if_neg (by omega)]
theorem rNx_NX {σ : gS} (h : NX σ) : NX (rNx σ) := by
  obtain ⟨L, n, eL, en, lL, ln, nL, nn⟩ := NX_n h
  have e8 : rNx σ 323 8 = σ 323 8 := rNx_3 (by omega)
  have b := tkS_b (T := σ 330) ln
  have b2 := rPl_b (T := σ 330) b.2
  have e11 : rNx σ 323 11 = iN (rPl (σ 330) L (tkS (σ 330) L n)) := by
    rw [rNx_e]
    unfold rNx4 rSt
    rw [if_pos rfl, if_pos rfl, nL, nn]
  refine ⟨?_, ?_⟩
  · show 0 ≤ rNx σ 323 8 ∧ rNx σ 323 8 ≤ 1000
    rw [e8]
    exact h.1
  · rw [e8, e11, eL]
    exact ⟨(iN_le (k := 0) (by decide) (by omega)).mpr (by omega), (iN_le (by omega) (by omega)).mpr b2⟩
abbrev rIs (σ : gS) (w : Int32) : Prop := σ 323 13 = 1 ∧ σ 323 14 = w
theorem rTk_x : ∃ f : gS → Int32 → gS, ∀ σ c, f σ c = if σ 323 15 = 0 then (if c = 0 then gup (gup σ 323 15 1) 323 9 (σ 323 12) else rNx σ) else σ := ⟨fun σ c => if σ 323 15 = 0 then (if c = 0 then gup (gup σ 323 15 1) 323 9 (σ 323 12) else rNx σ) else σ, fun _ _ => rfl⟩
noncomputable def rTk : gS → Int32 → gS := Classical.choose rTk_x
theorem rTk_e : ∀ σ c, rTk σ c = if σ 323 15 = 0 then (if c = 0 then gup (gup σ 323 15 1) 323 9 (σ 323 12) else rNx σ) else σ := Classical.choose_spec rTk_x
theorem rTk_far {σ : gS} {c : Int32} {q : Nat} (h : ¬ q = 323) : rTk σ c q = σ q := by
  rw [rTk_e]
  split
  · split
    · funext j; rw [gup_ne (by omega), gup_ne (by omega)]
    · exact rNx_far h
  · rfl
theorem NX_cg {σ τ : gS} (h : NX σ) (h1 : τ 323 8 = σ 323 8) (h2 : τ 323 11 = σ 323 11) : NX τ := by
  refine ⟨?_, ?_⟩
  · show 0 ≤ τ 323 8 ∧ τ 323 8 ≤ 1000
    rw [h1]
    exact h.1
  · rw [h1, h2]
    exact h.2
theorem NX_25 {σ : gS} {j : Nat} {x : Int32} (h : NX σ) : NX (gup σ 325 j x) := NX_cg h (gup_ne (by omega)) (gup_ne (by omega))
theorem rTk_NX {σ : gS} {c : Int32} (h : NX σ) : NX (rTk σ c) := by
  rw [rTk_e]
  split
  · split
    · exact NX_cg h (by rw [gup_ne (by omega), gup_ne (by omega)]) (by rw [gup_ne (by omega), gup_ne (by omega)])
    · exact rNx_NX h
  · exact h
/-- a number -/
abbrev rOk (σ : gS) (a b : Int32) : Prop := σ 323 13 = 2 ∧ (a ≤ σ 323 14 ∧ σ 323 14 ≤ b)
noncomputable def rTn (σ : gS) (a b : Int32) : gS := rTk σ (bI (rOk σ a b))
theorem rTn_e (σ : gS) (a b : Int32) : rTn σ a b = rTk σ (bI (rOk σ a b)) := rfl
noncomputable def rNm (σ : gS) (a b : Int32) : Int32 := if σ 323 15 = 0 ∧ rOk σ a b then σ 323 14 else 0
theorem rTn_far {σ : gS} {a b : Int32} {q : Nat} (h : ¬ q = 323) : rTn σ a b q = σ q := rTk_far h
theorem rTn_NX {σ : gS} {a b : Int32} (h : NX σ) : NX (rTn σ a b) := rTk_NX h
/-- a like -/
noncomputable def rLk (σ : gS) : gS := rTk σ (bI (σ 323 13 = 5 ∨ σ 323 13 = 4))
theorem rLk_e (σ : gS) : rLk σ = rTk σ (bI (σ 323 13 = 5 ∨ σ 323 13 = 4)) := rfl
theorem rLk_far {σ : gS} {q : Nat} (h : ¬ q = 323) : rLk σ q = σ q := rTk_far h
theorem rLk_NX {σ : gS} (h : NX σ) : NX (rLk σ) := rTk_NX h
noncomputable def rLi (σ : gS) : Int32 := (if σ 323 13 = 5 then -1 else 1) * rNm (rLk σ) 0 9
/-- may a word stand here? -/
abbrev rTw (σ : gS) (w : Int32) : Prop := σ 323 15 = 0 ∧ rIs σ w
noncomputable def f192 : gD := fun Lv σ => match Lv with
  | [some (.ref q0), some (.int w)] => cond (Nat.beq q0 323) (some (none, some (.int (bI (rIs σ w))), σ)) none
  | _ => none
noncomputable def f194 : gD := fun Lv σ => match Lv with
  | [some (.ref q0), some (.int c)] => cond (Nat.beq q0 323) (some (some (NX σ), some (.int (bI (σ 323 15 = 0 ∧ ¬ c = 0))), rTk σ c)) none
  | _ => none
noncomputable def gpdy_l : List (Nat × gD) := gpdx_l
noncomputable def gpdy : gP := gpl0 gpdy_l
theorem gpdy_ok : gPok gpdy := gpdx_ok
noncomputable def f195 : gD := fun Lv σ => match Lv with
  | [some (.ref q0), some (.int a), some (.int b), none] => cond (Nat.beq q0 323) (some (some (NX σ), some (.int (rNm σ a b)), rTn σ a b)) none
  | _ => none
noncomputable def f196 : gD := fun Lv σ => match Lv with
  | [some (.ref q0), some (.int w)] => cond (Nat.beq q0 323) (some (some (NX σ), some (.int (bI (rTw σ w))), if rTw σ w then rNx σ else σ)) none
  | _ => none
noncomputable def gpdz_l : List (Nat × gD) := gpdy_l
noncomputable def gpdz : gP := gpl0 gpdz_l
theorem gpdz_ok : gPok gpdz := gpdy_ok
noncomputable def f197 : gD := fun Lv σ => match Lv with
  | [some (.ref q0), none] => cond (Nat.beq q0 323) (some (some (NX σ), some (.int (rLi σ)), rTn (rLk σ) 0 9)) none
  | _ => none
noncomputable def gpea_l : List (Nat × gD) := gpdz_l
noncomputable def gpea : gP := gpl0 gpea_l
theorem gpea_ok : gPok gpea := gpdz_ok
