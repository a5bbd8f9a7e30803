-- text 90
/-! THE REFERENCE: what must stand, and what may -/
theorem rPl_b {T : gW} {L S : Nat} (h : S ≤ L) : rPl T L S ≤ L := by
  have a := rnE_b (c := 2) (T := T) h
  have b := rnE_b (c := 3) (T := T) h
  unfold rPl
  split
  · omega
  · split
    · omega
    · split <;> omega
theorem rNx_far {σ : gS} {q : Nat} (h : ¬ q = 323) : rNx σ q = σ q := by
  rw [rNx_e]
  funext j
  unfold rNx4
  rw [if_neg h]
theorem rNx_3 {σ : gS} {j : Nat} (h : j < 11 ∨ 14 < j) : rNx σ 323 j = σ 323 j := by
  rw [rNx_e]
  unfold rNx4
  rw [if_pos rfl, if_neg (by omega), if_neg (by omega), if_neg (by omega), if_neg (by omega)]
theorem rNx_NX {σ : gS} (h : NX σ) : NX (rNx σ) := by
  obtain ⟨L, n, eL, en, lL, ln, nL, nn⟩ := NX_n h
  have e8 : rNx σ 323 8 = σ 323 8 := rNx_3 (by omega)
  have b := tkS_b (T := σ 330) ln
  have b2 := rPl_b (T := σ 330) b.2
  have e11 : rNx σ 323 11 = iN (rPl (σ 330) L (tkS (σ 330) L n)) := by
    rw [rNx_e]
    unfold rNx4 rSt
    rw [if_pos rfl, if_pos rfl, nL, nn]
  refine ⟨?_, ?_⟩
  · show 0 ≤ rNx σ 323 8 ∧ rNx σ 323 8 ≤ 1000
    rw [e8]
    exact h.1
  · rw [e8, e11, eL]
    exact ⟨(iN_le (k := 0) (by decide) (by omega)).mpr (by omega), (iN_le (by omega) (by omega)).mpr b2⟩
abbrev rIs (σ : gS) (w : Int32) : Prop := σ 323 13 = 1 ∧ σ 323 14 = w
theorem rTk_x : ∃ f : gS → Int32 → gS, ∀ σ c, f σ c = if σ 323 15 = 0 then (if c = 0 then gup (gup σ 323 15 1) 323 9 (σ 323 12) else rNx σ) else σ := ⟨fun σ c => if σ 323 15 = 0 then (if c = 0 then gup (gup σ 323 15 1) 323 9 (σ 323 12) else rNx σ) else σ, fun _ _ => rfl⟩
noncomputable def rTk : gS → Int32 → gS := Classical.choose rTk_x
theorem rTk_e : ∀ σ c, rTk σ c = if σ 323 15 = 0 then (if c = 0 then gup (gup σ 323 15 1) 323 9 (σ 323 12) else rNx σ) else σ := Classical.choose_spec rTk_x
theorem rTk_far {σ : gS} {c : Int32} {q : Nat} (h : ¬ q = 323) : rTk σ c q = σ q := by
  rw [rTk_e]
  split
  · split
    · funext j; rw [gup_ne (by omega), gup_ne (by omega)]
    · exact rNx_far h
  · rfl
theorem NX_cg {σ τ : gS} (h : NX σ) (h1 : τ 323 8 = σ 323 8) (h2 : τ 323 11 = σ 323 11) : NX τ := by
  refine ⟨?_, ?_⟩
  · show 0 ≤ τ 323 8 ∧ τ 323 8 ≤ 1000
    rw [h1]
    exact h.1
  · rw [h1, h2]
    exact h.2
theorem NX_25 {σ : gS} {j : Nat} {x : Int32} (h : NX σ) : NX (gup σ 325 j x) := NX_cg h (gup_ne (by omega)) (gup_ne (by omega))
theorem rTk_NX {σ : gS} {c : Int32} (h : NX σ) : NX (rTk σ c) := by
  rw [rTk_e]
  split
  · split
    · exact NX_cg h (by rw [gup_ne (by omega), gup_ne (by omega)]) (by rw [gup_ne (by omega), gup_ne (by omega)])
    · exact rNx_NX h
  · exact h
/-- a number -/
abbrev rOk (σ : gS) (a b : Int32) : Prop := σ 323 13 = 2 ∧ (a ≤ σ 323 14 ∧ σ 323 14 ≤ b)
noncomputable def rTn (σ : gS) (a b : Int32) : gS := rTk σ (bI (rOk σ a b))
theorem rTn_e (σ : gS) (a b : Int32) : rTn σ a b = rTk σ (bI (rOk σ a b)) := rfl
noncomputable def rNm (σ : gS) (a b : Int32) : Int32 := if σ 323 15 = 0 ∧ rOk σ a b then σ 323 14 else 0
theorem rTn_far {σ : gS} {a b : Int32} {q : Nat} (h : ¬ q = 323) : rTn σ a b q = σ q := rTk_far h
theorem rTn_NX {σ : gS} {a b : Int32} (h : NX σ) : NX (rTn σ a b) := rTk_NX h
/-- a like -/
noncomputable def rLk (σ : gS) : gS := rTk σ (bI (σ 323 13 = 5 ∨ σ 323 13 = 4))
theorem rLk_e (σ : gS) : rLk σ = rTk σ (bI (σ 323 13 = 5 ∨ σ 323 13 = 4)) := rfl
theorem rLk_far {σ : gS} {q : Nat} (h : ¬ q = 323) : rLk σ q = σ q := rTk_far h
theorem rLk_NX {σ : gS} (h : NX σ) : NX (rLk σ) := rTk_NX h
noncomputable def rLi (σ : gS) : Int32 := (if σ 323 13 = 5 then -1 else 1) * rNm (rLk σ) 0 9
/-- may a word stand here? -/
abbrev rTw (σ : gS) (w : Int32) : Prop := σ 323 15 = 0 ∧ rIs σ w
set_option maxRecDepth 20000 in
theorem w192 {σ : gS} {K : gK} {w : Int32} (h : ((¬ (σ 323 13) = 1 → ((0 : Int32) = 0 ∨ (0 : Int32) = 1) ∧ K (some (.int 0)) σ) ∧ ((σ 323 13) = 1 → ((¬ (σ 323 14) = w → ((0 : Int32) = 0 ∨ (0 : Int32) = 1) ∧ K (some (.int 0)) σ) ∧ ((σ 323 14) = w → ((1 : Int32) = 0 ∨ (1 : Int32) = 1) ∧ K (some (.int 1)) σ))))) : gE 192 0 [some (.ref 323), some (.int w)] [] σ K :=
  gw_run (cy := 192) (cuts := []) (inl := []) (pf := gpdx) gpdx_ok 400 (by decide) h
theorem s192 {σ : gS} {K : gK} {w : Int32} (hK : K (some (.int (bI (rIs σ w)))) σ) : gE 192 0 [some (.ref 323), some (.int w)] [] σ K := by
  refine w192 ⟨fun h => ⟨Or.inl rfl, ?_⟩, fun h => ⟨fun h2 => ⟨Or.inl rfl, ?_⟩, fun h2 => ⟨Or.inr rfl, ?_⟩⟩⟩
  · rw [bI_n (fun q => h q.1)] at hK; exact hK
  · rw [bI_n (fun q => h2 q.2)] at hK; exact hK
  · rw [bI_y ⟨h, h2⟩] at hK; exact hK
noncomputable def f192 : gD := fun Lv σ => match Lv with
  | [some (.ref q0), some (.int w)] => cond (Nat.beq q0 323) (some (none, some (.int (bI (rIs σ w))), σ)) none
  | _ => none
theorem ok192 : gFok 192 f192 := by
  intro Lv σ q h hc K hK
  unfold f192 at h
  split at h
  · rename_i q0 w
    obtain ⟨hb, h⟩ := c_no h
    have hb0 := hb
    have e0 := b_eq hb0
    subst e0
    cases h
    exact s192 hK
  · cases h
set_option maxRecDepth 20000 in
theorem w194 {σ : gS} {K : gK} {c : Int32} (h : (((σ 323 15) = 0 → ((¬ c = 0 → (NX σ) ∧ ((1 : Int32) = 0 ∨ (1 : Int32) = 1) ∧ K (some (.int 1)) (rNx σ)) ∧ (c = 0 → ((1 : Int32) = 0 ∨ (1 : Int32) = 1) ∧ ((0 : Int32) = 0 ∨ (0 : Int32) = 1) ∧ K (some (.int 0)) (gup (gup σ 323 15 1) 323 9 ((gup σ 323 15 1) 323 12))))) ∧ (¬ (σ 323 15) = 0 → ((0 : Int32) = 0 ∨ (0 : Int32) = 1) ∧ K (some (.int 0)) σ))) : gE 194 0 [some (.ref 323), some (.int c)] [] σ K :=
  gw_run (cy := 194) (cuts := []) (inl := []) (pf := gpdx) gpdx_ok 400 (by decide) h
theorem s194 {σ : gS} {K : gK} {c : Int32} (hc : NX σ) (hK : K (some (.int (bI (σ 323 15 = 0 ∧ ¬ c = 0)))) (rTk σ c)) : gE 194 0 [some (.ref 323), some (.int c)] [] σ K := by
  rw [rTk_e] at hK
  refine w194 ⟨fun h => ⟨fun h2 => ⟨hc, Or.inr rfl, ?_⟩, fun h2 => ⟨Or.inr rfl, Or.inl rfl, ?_⟩⟩, fun h => ⟨Or.inl rfl, ?_⟩⟩
  · rw [bI_y ⟨h, h2⟩, if_pos h, if_neg h2] at hK; exact hK
  · rw [bI_n (fun q => q.2 h2), if_pos h, if_pos h2] at hK
    rw [show gup σ 323 15 1 323 12 = σ 323 12 from gup_ne (by omega)]
    exact hK
  · rw [bI_n (fun q => h q.1), if_neg h] at hK; exact hK
noncomputable def f194 : gD := fun Lv σ => match Lv with
  | [some (.ref q0), some (.int c)] => cond (Nat.beq q0 323) (some (some (NX σ), some (.int (bI (σ 323 15 = 0 ∧ ¬ c = 0))), rTk σ c)) none
  | _ => none
theorem ok194 : gFok 194 f194 := by
  intro Lv σ q h hc K hK
  unfold f194 at h
  split at h
  · rename_i q0 c
    obtain ⟨hb, h⟩ := c_no h
    have hb0 := hb
    have e0 := b_eq hb0
    subst e0
    cases h
    exact s194 (hc _ rfl) hK
  · cases h
noncomputable def gpdy_l : List (Nat × gD) := (192, f192) :: (194, f194) :: gpdx_l
noncomputable def gpdy : gP := gpl0 gpdy_l
theorem gpdy_ok : gPok gpdy := gpl0_cons ok192 (gpl0_cons ok194 (gpdx_ok))
set_option maxRecDepth 20000 in
theorem w195 {σ : gS} {K : gK} {a b : Int32} (h : ((¬ (σ 323 13) = 2 → (NX σ) ∧ (((bI (σ 323 15 = 0 ∧ ¬ (0 : Int32) = 0)) = 0 → K (some (.int 0)) (rTk σ (0 : Int32))) ∧ (¬ (bI (σ 323 15 = 0 ∧ ¬ (0 : Int32) = 0)) = 0 → K (some (.int (σ 323 14))) (rTk σ (0 : Int32))))) ∧ ((σ 323 13) = 2 → (((bI (a ≤ (σ 323 14) ∧ (σ 323 14) ≤ b)) = 0 → (NX σ) ∧ (((bI (σ 323 15 = 0 ∧ ¬ (0 : Int32) = 0)) = 0 → K (some (.int 0)) (rTk σ (0 : Int32))) ∧ (¬ (bI (σ 323 15 = 0 ∧ ¬ (0 : Int32) = 0)) = 0 → K (some (.int (σ 323 14))) (rTk σ (0 : Int32))))) ∧ (¬ (bI (a ≤ (σ 323 14) ∧ (σ 323 14) ≤ b)) = 0 → (NX σ) ∧ (((bI (σ 323 15 = 0 ∧ ¬ (1 : Int32) = 0)) = 0 → K (some (.int 0)) (rTk σ (1 : Int32))) ∧ (¬ (bI (σ 323 15 = 0 ∧ ¬ (1 : Int32) = 0)) = 0 → K (some (.int (σ 323 14))) (rTk σ (1 : Int32))))))))) : gE 195 0 [some (.ref 323), some (.int a), some (.int b), none] [] σ K :=
  gw_run (cy := 195) (cuts := []) (inl := []) (pf := gpdy) gpdy_ok 400 (by decide) h
theorem s195 {σ : gS} {K : gK} {a b : Int32} (hc : NX σ) (hK : K (some (.int (rNm σ a b))) (rTn σ a b)) : gE 195 0 [some (.ref 323), some (.int a), some (.int b), none] [] σ K := by
  rw [rTn_e] at hK
  unfold rNm at hK
  refine w195 ?_
  by_cases h : σ 323 13 = 2
  · by_cases h2 : a ≤ σ 323 14 ∧ σ 323 14 ≤ b
    · have r : rOk σ a b := ⟨h, h2⟩
      rw [bI_y r] at hK
      rw [bI_y h2]
      refine ⟨fun z => absurd h z, fun _ => ⟨fun z => absurd z (by decide), fun _ => ⟨hc, fun h3 => ?_, fun h3 => ?_⟩⟩⟩
      · rw [if_neg (fun z => bI_0.mp h3 ⟨z.1, by decide⟩)] at hK; exact hK
      · have h3 := Decidable.not_not.mp (fun z => h3 (bI_0.mpr z))
        rw [if_pos ⟨h3.1, r⟩] at hK; exact hK
    · rw [if_neg (fun z => h2 z.2.2), bI_n (fun z => h2 z.2)] at hK
      rw [bI_n h2]
      exact ⟨fun z => absurd h z, fun _ => ⟨fun _ => ⟨hc, fun _ => hK, fun h3 => absurd (bI_0.mpr (fun z => z.2 rfl)) h3⟩, fun z => absurd rfl z⟩⟩
  · rw [if_neg (fun z => h z.2.1), bI_n (fun z => h z.1)] at hK
    exact ⟨fun _ => ⟨hc, fun _ => hK, fun h3 => absurd (bI_0.mpr (fun z => z.2 rfl)) h3⟩, fun z => absurd z h⟩
noncomputable def f195 : gD := fun Lv σ => match Lv with
  | [some (.ref q0), some (.int a), some (.int b), none] => cond (Nat.beq q0 323) (some (some (NX σ), some (.int (rNm σ a b)), rTn σ a b)) none
  | _ => none
theorem ok195 : gFok 195 f195 := by
  intro Lv σ q h hc K hK
  unfold f195 at h
  split at h
  · rename_i q0 a b
    obtain ⟨hb, h⟩ := c_no h
    have hb0 := hb
    have e0 := b_eq hb0
    subst e0
    cases h
    exact s195 (hc _ rfl) hK
  · cases h
set_option maxRecDepth 20000 in
theorem w196 {σ : gS} {K : gK} {w : Int32} (h : ((¬ (σ 323 15) = 0 → ((0 : Int32) = 0 ∨ (0 : Int32) = 1) ∧ K (some (.int 0)) σ) ∧ ((σ 323 15) = 0 → ((¬ (bI (rIs σ w)) = 0 → (NX σ) ∧ ((1 : Int32) = 0 ∨ (1 : Int32) = 1) ∧ K (some (.int 1)) (rNx σ)) ∧ ((bI (rIs σ w)) = 0 → ((0 : Int32) = 0 ∨ (0 : Int32) = 1) ∧ K (some (.int 0)) σ))))) : gE 196 0 [some (.ref 323), some (.int w)] [] σ K :=
  gw_run (cy := 196) (cuts := []) (inl := []) (pf := gpdy) gpdy_ok 400 (by decide) h
theorem s196 {σ : gS} {K : gK} {w : Int32} (hc : NX σ) (hK : K (some (.int (bI (rTw σ w)))) (if rTw σ w then rNx σ else σ)) : gE 196 0 [some (.ref 323), some (.int w)] [] σ K := by
  refine w196 ⟨fun h => ⟨Or.inl rfl, ?_⟩, fun h => ⟨fun h2 => ⟨hc, Or.inr rfl, ?_⟩, fun h2 => ⟨Or.inl rfl, ?_⟩⟩⟩
  · rw [bI_n (fun q => h q.1), if_neg (fun q => h q.1)] at hK; exact hK
  · have q := Decidable.not_not.mp (fun z => h2 (bI_0.mpr z))
    rw [bI_y ⟨h, q⟩, if_pos ⟨h, q⟩] at hK; exact hK
  · rw [bI_n (fun q => bI_0.mp h2 q.2), if_neg (fun q => bI_0.mp h2 q.2)] at hK; exact hK
noncomputable def f196 : gD := fun Lv σ => match Lv with
  | [some (.ref q0), some (.int w)] => cond (Nat.beq q0 323) (some (some (NX σ), some (.int (bI (rTw σ w))), if rTw σ w then rNx σ else σ)) none
  | _ => none
theorem ok196 : gFok 196 f196 := by
  intro Lv σ q h hc K hK
  unfold f196 at h
  split at h
  · rename_i q0 w
    obtain ⟨hb, h⟩ := c_no h
    have hb0 := hb
    have e0 := b_eq hb0
    subst e0
    cases h
    exact s196 (hc _ rfl) hK
  · cases h
noncomputable def gpdz_l : List (Nat × gD) := (195, f195) :: (196, f196) :: gpdy_l
noncomputable def gpdz : gP := gpl0 gpdz_l
theorem gpdz_ok : gPok gpdz := gpl0_cons ok195 (gpl0_cons ok196 (gpdy_ok))
set_option maxRecDepth 20000 in
theorem w197 {σ : gS} {K : gK} (h : ((¬ (σ 323 13) = 5 → (((σ 323 13) = 5 → (NX σ) ∧ (NX (rTk σ (1 : Int32))) ∧ K (some (.int (1 * (rNm (rTk σ (1 : Int32)) (0 : Int32) (9 : Int32))))) (rTn (rTk σ (1 : Int32)) (0 : Int32) (9 : Int32))) ∧ (¬ (σ 323 13) = 5 → ((¬ (σ 323 13) = 4 → (NX σ) ∧ (NX (rTk σ (0 : Int32))) ∧ K (some (.int (1 * (rNm (rTk σ (0 : Int32)) (0 : Int32) (9 : Int32))))) (rTn (rTk σ (0 : Int32)) (0 : Int32) (9 : Int32))) ∧ ((σ 323 13) = 4 → (NX σ) ∧ (NX (rTk σ (1 : Int32))) ∧ K (some (.int (1 * (rNm (rTk σ (1 : Int32)) (0 : Int32) (9 : Int32))))) (rTn (rTk σ (1 : Int32)) (0 : Int32) (9 : Int32))))))) ∧ ((σ 323 13) = 5 → (((σ 323 13) = 5 → (NX σ) ∧ (NX (rTk σ (1 : Int32))) ∧ K (some (.int ((-1) * (rNm (rTk σ (1 : Int32)) (0 : Int32) (9 : Int32))))) (rTn (rTk σ (1 : Int32)) (0 : Int32) (9 : Int32))) ∧ (¬ (σ 323 13) = 5 → ((¬ (σ 323 13) = 4 → (NX σ) ∧ (NX (rTk σ (0 : Int32))) ∧ K (some (.int ((-1) * (rNm (rTk σ (0 : Int32)) (0 : Int32) (9 : Int32))))) (rTn (rTk σ (0 : Int32)) (0 : Int32) (9 : Int32))) ∧ ((σ 323 13) = 4 → (NX σ) ∧ (NX (rTk σ (1 : Int32))) ∧ K (some (.int ((-1) * (rNm (rTk σ (1 : Int32)) (0 : Int32) (9 : Int32))))) (rTn (rTk σ (1 : Int32)) (0 : Int32) (9 : Int32))))))))) : gE 197 0 [some (.ref 323), none] [] σ K :=
  gw_run (cy := 197) (cuts := []) (inl := []) (pf := gpdz) gpdz_ok 400 (by decide) h
theorem s197 {σ : gS} {K : gK} (hc : NX σ) (hK : K (some (.int (rLi σ))) (rTn (rLk σ) 0 9)) : gE 197 0 [some (.ref 323), none] [] σ K := by
  unfold rLi at hK
  have k := rLk_NX hc
  rw [rLk_e] at hK k
  refine w197 ?_
  by_cases h : σ 323 13 = 5
  · rw [bI_y (Or.inl h)] at hK k
    rw [if_pos h] at hK
    exact ⟨fun z => absurd h z, fun _ => ⟨fun _ => ⟨hc, k, hK⟩, fun z => absurd h z⟩⟩
  · by_cases h2 : σ 323 13 = 4
    · rw [bI_y (Or.inr h2)] at hK k
      rw [if_neg h] at hK
      exact ⟨fun _ => ⟨fun z => absurd z h, fun _ => ⟨fun z => absurd h2 z, fun _ => ⟨hc, k, hK⟩⟩⟩, fun z => absurd z h⟩
    · rw [bI_n (fun z => z.elim h h2)] at hK k
      rw [if_neg h] at hK
      exact ⟨fun _ => ⟨fun z => absurd z h, fun _ => ⟨fun _ => ⟨hc, k, hK⟩, fun z => absurd z h2⟩⟩, fun z => absurd z h⟩
noncomputable def f197 : gD := fun Lv σ => match Lv with
  | [some (.ref q0), none] => cond (Nat.beq q0 323) (some (some (NX σ), some (.int (rLi σ)), rTn (rLk σ) 0 9)) none
  | _ => none
theorem ok197 : gFok 197 f197 := by
  intro Lv σ q h hc K hK
  unfold f197 at h
  split at h
  · rename_i q0
    obtain ⟨hb, h⟩ := c_no h
    have hb0 := hb
    have e0 := b_eq hb0
    subst e0
    cases h
    exact s197 (hc _ rfl) hK
  · cases h
noncomputable def gpea_l : List (Nat × gD) := (197, f197) :: gpdz_l
noncomputable def gpea : gP := gpl0 gpea_l
theorem gpea_ok : gPok gpea := gpl0_cons ok197 (gpdz_ok)
