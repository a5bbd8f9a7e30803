-- text 102
/-! QUERIES: those put together of what is known -/
abbrev b3R (R : gW) : Prop := 0 ≤ R 3 ∧ R 3 ≤ 20
noncomputable def aAt (R : gW) (x : Int32) : Int32 := if isS R x then fWho R x else -1
noncomputable def aWy (R : gW) (a b x : Int32) : Int32 := if isP R a b ∧ (0 ≤ x ∧ x ≤ 9) then fWhy R a.toNatClampNeg b.toNatClampNeg x else -1
noncomputable def aWm (R : gW) (t x : Int32) : Int32 := if isT R t ∧ isS R x then fWhyM R t.toNatClampNeg x else -1
noncomputable def aJa (R : gW) (t x : Int32) : Int32 := if isT R t ∧ isS R x then fJoy R t.toNatClampNeg x + 100 else -1
noncomputable def aIs (R : gW) (a b w : Int32) : Int32 := if isP R a b then (if w = 0 then fRise R a.toNatClampNeg b.toNatClampNeg a.toNatClampNeg + 100 else if w = 1 then fRise R a.toNatClampNeg b.toNatClampNeg b.toNatClampNeg + 100 else if w = 2 then fJa (rsw R a.toNatClampNeg b.toNatClampNeg) + 1000 else -1) else -1
noncomputable def aIf (R : gW) (x : Int32) : Int32 := if 0 ≤ x ∧ x ≤ R 0 then fBar R x else -1
noncomputable def lea (R : gW) (a b : Nat) : Nat → Nat → Int32
  | 0, _ => -2
  | d + 1, s => if fWhy R a b (iN s) = 0 then iN s else lea R a b d (s + 1)
noncomputable def aLe (R : gW) (a b : Int32) : Int32 := if isP R a b then lea R a.toNatClampNeg b.toNatClampNeg 10 0 else -1
theorem agr_at {R S : gW} (h : agr R S) (x : Int32) : aAt R x = aAt S x := by
  unfold aAt
  by_cases q : isS S x
  · rw [if_pos ((agr_isS h x).mpr q), if_pos q, agr_Who h x]
  · rw [if_neg (fun z => q ((agr_isS h x).mp z)), if_neg q]
theorem isT_nn {R : gW} (h3 : b3R R) {t : Int32} (h : isT R t) : t.toNatClampNeg < nM R := (isT_n h3 h).2
theorem agr_wy {R S : gW} (h3 : b3R R) (h : agr R S) (a b x : Int32) : aWy R a b x = aWy S a b x := by
  unfold aWy
  by_cases q : isP R a b ∧ (0 ≤ x ∧ x ≤ 9)
  · rw [if_pos q, if_pos ⟨(agr_isP h a b).mp q.1, q.2⟩]
    exact agr_Why h (isT_nn h3 q.1.1.1) (isT_nn h3 q.1.1.2) x
  · rw [if_neg q, if_neg (fun z => q ⟨(agr_isP h a b).mpr z.1, z.2⟩)]
theorem agr_wm {R S : gW} (h3 : b3R R) (h : agr R S) (t x : Int32) : aWm R t x = aWm S t x := by
  unfold aWm
  by_cases q : isT R t ∧ isS R x
  · rw [if_pos q, if_pos ⟨(agr_isT h t).mp q.1, (agr_isS h x).mp q.2⟩]
    exact agr_WhyM h (isT_nn h3 q.1) x
  · rw [if_neg q, if_neg (fun z => q ⟨(agr_isT h t).mpr z.1, (agr_isS h x).mpr z.2⟩)]
theorem agr_ja {R S : gW} (h3 : b3R R) (h : agr R S) (t x : Int32) : aJa R t x = aJa S t x := by
  unfold aJa
  by_cases q : isT R t ∧ isS R x
  · rw [if_pos q, if_pos ⟨(agr_isT h t).mp q.1, (agr_isS h x).mp q.2⟩, agr_Joy h (isT_nn h3 q.1) x]
  · rw [if_neg q, if_neg (fun z => q ⟨(agr_isT h t).mpr z.1, (agr_isS h x).mpr z.2⟩)]
theorem agr_is {R S : gW} (h3 : b3R R) (h : agr R S) (a b w : Int32) : aIs R a b w = aIs S a b w := by
  unfold aIs
  by_cases q : isP R a b
  · have ha := isT_nn h3 q.1.1
    have hb := isT_nn h3 q.1.2
    rw [if_pos q, if_pos ((agr_isP h a b).mp q), agr_Rise h ha hb ha, agr_Rise h ha hb hb, agr_Ja (agr_rsw h ha hb)]
  · rw [if_neg q, if_neg (fun z => q ((agr_isP h a b).mpr z))]
theorem agr_if {R S : gW} (h : agr R S) (x : Int32) : aIf R x = aIf S x := by
  unfold aIf
  rw [h.1 0 (by decide), agr_Bar h x]
theorem agr_lea {R S : gW} (h : agr R S) {a b : Nat} (ha : a < nM R) (hb : b < nM R) : ∀ d s, lea R a b d s = lea S a b d s
  | 0, _ => rfl
  | d + 1, s => by
    unfold lea
    rw [agr_Why h ha hb, agr_lea h ha hb d (s + 1)]
theorem agr_le {R S : gW} (h3 : b3R R) (h : agr R S) (a b : Int32) : aLe R a b = aLe S a b := by
  unfold aLe
  by_cases q : isP R a b
  · rw [if_pos q, if_pos ((agr_isP h a b).mp q)]
    exact agr_lea h (isT_nn h3 q.1.1) (isT_nn h3 q.1.2) _ _
  · rw [if_neg q, if_neg (fun z => q ((agr_isP h a b).mpr z))]
theorem dnn {P : Prop} [Decidable P] (h : ¬ bI P = 0) : P := Decidable.not_not.mp (fun z => h (bI_0.mpr z))
set_option maxRecDepth 20000 in
theorem w126 {σ : gS} {K : gK} {x : Int32} (h : (((bI (isS (cR σ 6) x)) = 0 → K (some (.int (-1))) σ) ∧ (¬ (bI (isS (cR σ 6) x)) = 0 → (0 ≤ σ 6 7 ∧ σ 6 7 ≤ 20) ∧ K (some (.int (fWho (cR σ 6) x))) σ))) : gE 126 0 [some (.ref 0), some (.int x)] [] σ K :=
  gw_run (cy := 126) (cuts := []) (inl := []) (pf := gpec) gpec_ok 400 (by decide) h
theorem s126 {σ : gS} {K : gK} {x : Int32} (hc : SC σ) (hK : K (some (.int (aAt (cR σ 6) x))) σ) : gE 126 0 [some (.ref 0), some (.int x)] [] σ K := by
  obtain ⟨hT, hP, hL, h0⟩ := hc
  have h7 : 0 ≤ σ 6 7 ∧ σ 6 7 ≤ 20 := SC_7 ⟨hT, hP, hL, h0⟩
  unfold aAt at hK
  refine w126 ⟨fun h => ?_, fun h => ⟨h7, ?_⟩⟩
  · rw [if_neg (bI_0.mp h)] at hK; exact hK
  · rw [if_pos (dnn h)] at hK; exact hK
noncomputable def f126 : gD := fun Lv σ => match Lv with
  | [some (.ref q0), some (.int x)] => cond (Nat.beq q0 0) (some (some (SC σ), some (.int (aAt (cR σ 6) x)), σ)) none
  | _ => none
theorem ok126 : gFok 126 f126 := by
  intro Lv σ q h hc K hK
  unfold f126 at h
  split at h
  · rename_i q0 x
    obtain ⟨hb, h⟩ := c_no h
    have hb0 := hb
    have e0 := b_eq hb0
    subst e0
    cases h
    exact s126 (hc _ rfl) hK
  · cases h
set_option maxRecDepth 20000 in
theorem w231 {σ : gS} {K : gK} {x : Int32} (h : (((bI (isS (σ 324) x)) = 0 → K (some (.int (-1))) σ) ∧ (¬ (bI (isS (σ 324) x)) = 0 → (0 ≤ σ 324 3 ∧ σ 324 3 ≤ 20) ∧ K (some (.int (fWho (σ 324) x))) σ))) : gE 231 0 [some (.ref 323), some (.int x)] [] σ K :=
  gw_run (cy := 231) (cuts := []) (inl := []) (pf := gpec) gpec_ok 400 (by decide) h
theorem s231 {σ : gS} {K : gK} {x : Int32} (hc : RS σ) (hK : K (some (.int (aAt (σ 324) x))) σ) : gE 231 0 [some (.ref 323), some (.int x)] [] σ K := by
  obtain ⟨⟨h3, h9⟩, hu⟩ := hc
  unfold aAt at hK
  refine w231 ⟨fun h => ?_, fun h => ⟨h3, ?_⟩⟩
  · rw [if_neg (bI_0.mp h)] at hK; exact hK
  · rw [if_pos (dnn h)] at hK; exact hK
noncomputable def f231 : gD := fun Lv σ => match Lv with
  | [some (.ref q0), some (.int x)] => cond (Nat.beq q0 323) (some (some (RS σ), some (.int (aAt (σ 324) x)), σ)) none
  | _ => none
theorem ok231 : gFok 231 f231 := by
  intro Lv σ q h hc K hK
  unfold f231 at h
  split at h
  · rename_i q0 x
    obtain ⟨hb, h⟩ := c_no h
    have hb0 := hb
    have e0 := b_eq hb0
    subst e0
    cases h
    exact s231 (hc _ rfl) hK
  · cases h
set_option maxRecDepth 20000 in
theorem w130 {σ : gS} {K : gK} {a b x : Int32} (h : (((bI (isP (cR σ 6) a b)) = 0 → K (some (.int (-1))) σ) ∧ (¬ (bI (isP (cR σ 6) a b)) = 0 → ((¬ (bI ((0 : Int32) ≤ x ∧ x ≤ (9 : Int32))) = 0 → (isN σ 6 a ∧ isN σ 6 b ∧ TC σ 6) ∧ K (some (.int (fWhy (cR σ 6) a.toNatClampNeg b.toNatClampNeg x))) σ) ∧ ((bI ((0 : Int32) ≤ x ∧ x ≤ (9 : Int32))) = 0 → K (some (.int (-1))) σ))))) : gE 130 0 [some (.ref 0), some (.int a), some (.int b), some (.int x)] [] σ K :=
  gw_run (cy := 130) (cuts := []) (inl := []) (pf := gpec) gpec_ok 400 (by decide) h
theorem s130 {σ : gS} {K : gK} {a b x : Int32} (hc : SC σ) (hK : K (some (.int (aWy (cR σ 6) a b x))) σ) : gE 130 0 [some (.ref 0), some (.int a), some (.int b), some (.int x)] [] σ K := by
  obtain ⟨hT, hP, hL, h0⟩ := hc
  have h7 : 0 ≤ σ 6 7 ∧ σ 6 7 ≤ 20 := SC_7 ⟨hT, hP, hL, h0⟩
  unfold aWy at hK
  refine w130 ⟨fun h => ?_, fun h => ⟨fun h2 => ⟨⟨isN_of hT.1 (dnn h).1.1, isN_of hT.1 (dnn h).1.2, hT⟩, ?_⟩, fun h2 => ?_⟩⟩
  · rw [if_neg (fun z => bI_0.mp h z.1)] at hK; exact hK
  · rw [if_pos ⟨dnn h, dnn h2⟩] at hK; exact hK
  · rw [if_neg (fun z => bI_0.mp h2 z.2)] at hK; exact hK
noncomputable def f130 : gD := fun Lv σ => match Lv with
  | [some (.ref q0), some (.int a), some (.int b), some (.int x)] => cond (Nat.beq q0 0) (some (some (SC σ), some (.int (aWy (cR σ 6) a b x)), σ)) none
  | _ => none
theorem ok130 : gFok 130 f130 := by
  intro Lv σ q h hc K hK
  unfold f130 at h
  split at h
  · rename_i q0 a b x
    obtain ⟨hb, h⟩ := c_no h
    have hb0 := hb
    have e0 := b_eq hb0
    subst e0
    cases h
    exact s130 (hc _ rfl) hK
  · cases h
set_option maxRecDepth 20000 in
theorem w240 {σ : gS} {K : gK} {a b x : Int32} (h : (((bI (isP (σ 324) a b)) = 0 → K (some (.int (-1))) σ) ∧ (¬ (bI (isP (σ 324) a b)) = 0 → (((bI (0 ≤ x ∧ x ≤ 9)) = 0 → K (some (.int (-1))) σ) ∧ (¬ (bI (0 ≤ x ∧ x ≤ 9)) = 0 → (((0 ≤ a ∧ a < 20) ∧ (0 ≤ b ∧ b < 20)) ∧ 0 ≤ σ 324 3 ∧ σ 324 3 ≤ 20) ∧ K (some (.int (fWhy (σ 324) a.toNatClampNeg b.toNatClampNeg x))) σ))))) : gE 240 0 [some (.ref 323), some (.int a), some (.int b), some (.int x)] [] σ K :=
  gw_run (cy := 240) (cuts := []) (inl := []) (pf := gpec) gpec_ok 400 (by decide) h
theorem s240 {σ : gS} {K : gK} {a b x : Int32} (hc : RS σ) (hK : K (some (.int (aWy (σ 324) a b x))) σ) : gE 240 0 [some (.ref 323), some (.int a), some (.int b), some (.int x)] [] σ K := by
  obtain ⟨⟨h3, h9⟩, hu⟩ := hc
  unfold aWy at hK
  refine w240 ⟨fun h => ?_, fun h => ⟨fun h2 => ?_, fun h2 => ⟨⟨isP_of h3 (dnn h), h3⟩, ?_⟩⟩⟩
  · rw [if_neg (fun z => bI_0.mp h z.1)] at hK; exact hK
  · rw [if_neg (fun z => bI_0.mp h2 z.2)] at hK; exact hK
  · rw [if_pos ⟨dnn h, dnn h2⟩] at hK; exact hK
noncomputable def f240 : gD := fun Lv σ => match Lv with
  | [some (.ref q0), some (.int a), some (.int b), some (.int x)] => cond (Nat.beq q0 323) (some (some (RS σ), some (.int (aWy (σ 324) a b x)), σ)) none
  | _ => none
theorem ok240 : gFok 240 f240 := by
  intro Lv σ q h hc K hK
  unfold f240 at h
  split at h
  · rename_i q0 a b x
    obtain ⟨hb, h⟩ := c_no h
    have hb0 := hb
    have e0 := b_eq hb0
    subst e0
    cases h
    exact s240 (hc _ rfl) hK
  · cases h
set_option maxRecDepth 20000 in
theorem w131 {σ : gS} {K : gK} {t x : Int32} (h : (((bI (isT (cR σ 6) t)) = 0 → K (some (.int (-1))) σ) ∧ (¬ (bI (isT (cR σ 6) t)) = 0 → ((¬ (bI (isS (cR σ 6) x)) = 0 → (isN σ 6 t ∧ (0 ≤ x ∧ x < 40) ∧ TC σ 6) ∧ K (some (.int (fWhyM (cR σ 6) t.toNatClampNeg x))) σ) ∧ ((bI (isS (cR σ 6) x)) = 0 → K (some (.int (-1))) σ))))) : gE 131 0 [some (.ref 0), some (.int t), some (.int x)] [] σ K :=
  gw_run (cy := 131) (cuts := []) (inl := []) (pf := gpec) gpec_ok 400 (by decide) h
theorem s131 {σ : gS} {K : gK} {t x : Int32} (hc : SC σ) (hK : K (some (.int (aWm (cR σ 6) t x))) σ) : gE 131 0 [some (.ref 0), some (.int t), some (.int x)] [] σ K := by
  obtain ⟨hT, hP, hL, h0⟩ := hc
  have h7 : 0 ≤ σ 6 7 ∧ σ 6 7 ≤ 20 := SC_7 ⟨hT, hP, hL, h0⟩
  unfold aWm at hK
  refine w131 ⟨fun h => ?_, fun h => ⟨fun h2 => ⟨⟨isN_of hT.1 (dnn h), isS_of h0 (dnn h2), hT⟩, ?_⟩, fun h2 => ?_⟩⟩
  · rw [if_neg (fun z => bI_0.mp h z.1)] at hK; exact hK
  · rw [if_pos ⟨dnn h, dnn h2⟩] at hK; exact hK
  · rw [if_neg (fun z => bI_0.mp h2 z.2)] at hK; exact hK
noncomputable def f131 : gD := fun Lv σ => match Lv with
  | [some (.ref q0), some (.int t), some (.int x)] => cond (Nat.beq q0 0) (some (some (SC σ), some (.int (aWm (cR σ 6) t x)), σ)) none
  | _ => none
theorem ok131 : gFok 131 f131 := by
  intro Lv σ q h hc K hK
  unfold f131 at h
  split at h
  · rename_i q0 t x
    obtain ⟨hb, h⟩ := c_no h
    have hb0 := hb
    have e0 := b_eq hb0
    subst e0
    cases h
    exact s131 (hc _ rfl) hK
  · cases h
set_option maxRecDepth 20000 in
theorem w241 {σ : gS} {K : gK} {t x : Int32} (h : (((bI (isT (σ 324) t)) = 0 → K (some (.int (-1))) σ) ∧ (¬ (bI (isT (σ 324) t)) = 0 → (((bI (isS (σ 324) x)) = 0 → K (some (.int (-1))) σ) ∧ (¬ (bI (isS (σ 324) x)) = 0 → ((0 ≤ t ∧ t < 20) ∧ 0 ≤ σ 324 3 ∧ σ 324 3 ≤ 20) ∧ K (some (.int (fWhyM (σ 324) t.toNatClampNeg x))) σ))))) : gE 241 0 [some (.ref 323), some (.int t), some (.int x)] [] σ K :=
  gw_run (cy := 241) (cuts := []) (inl := []) (pf := gpec) gpec_ok 400 (by decide) h
theorem s241 {σ : gS} {K : gK} {t x : Int32} (hc : RS σ) (hK : K (some (.int (aWm (σ 324) t x))) σ) : gE 241 0 [some (.ref 323), some (.int t), some (.int x)] [] σ K := by
  obtain ⟨⟨h3, h9⟩, hu⟩ := hc
  unfold aWm at hK
  refine w241 ⟨fun h => ?_, fun h => ⟨fun h2 => ?_, fun h2 => ⟨⟨isT_of h3 (dnn h), h3⟩, ?_⟩⟩⟩
  · rw [if_neg (fun z => bI_0.mp h z.1)] at hK; exact hK
  · rw [if_neg (fun z => bI_0.mp h2 z.2)] at hK; exact hK
  · rw [if_pos ⟨dnn h, dnn h2⟩] at hK; exact hK
noncomputable def f241 : gD := fun Lv σ => match Lv with
  | [some (.ref q0), some (.int t), some (.int x)] => cond (Nat.beq q0 323) (some (some (RS σ), some (.int (aWm (σ 324) t x)), σ)) none
  | _ => none
theorem ok241 : gFok 241 f241 := by
  intro Lv σ q h hc K hK
  unfold f241 at h
  split at h
  · rename_i q0 t x
    obtain ⟨hb, h⟩ := c_no h
    have hb0 := hb
    have e0 := b_eq hb0
    subst e0
    cases h
    exact s241 (hc _ rfl) hK
  · cases h
set_option maxRecDepth 20000 in
theorem w132 {σ : gS} {K : gK} {t x : Int32} (h : (((bI (isT (cR σ 6) t)) = 0 → K (some (.int (-1))) σ) ∧ (¬ (bI (isT (cR σ 6) t)) = 0 → ((¬ (bI (isS (cR σ 6) x)) = 0 → (((0 ≤ t ∧ t < 20) ∧ t.toNatClampNeg < nM (cR σ 6)) ∧ (0 ≤ x ∧ x < 40) ∧ TC σ 6) ∧ K (some (.int ((fJoy (cR σ 6) t.toNatClampNeg x) + 100))) σ) ∧ ((bI (isS (cR σ 6) x)) = 0 → K (some (.int (-1))) σ))))) : gE 132 0 [some (.ref 0), some (.int t), some (.int x)] [] σ K :=
  gw_run (cy := 132) (cuts := []) (inl := []) (pf := gpec) gpec_ok 400 (by decide) h
theorem s132 {σ : gS} {K : gK} {t x : Int32} (hc : SC σ) (hK : K (some (.int (aJa (cR σ 6) t x))) σ) : gE 132 0 [some (.ref 0), some (.int t), some (.int x)] [] σ K := by
  obtain ⟨hT, hP, hL, h0⟩ := hc
  have h7 : 0 ≤ σ 6 7 ∧ σ 6 7 ≤ 20 := SC_7 ⟨hT, hP, hL, h0⟩
  unfold aJa at hK
  refine w132 ⟨fun h => ?_, fun h => ⟨fun h2 => ⟨⟨isN_of hT.1 (dnn h), isS_of h0 (dnn h2), hT⟩, ?_⟩, fun h2 => ?_⟩⟩
  · rw [if_neg (fun z => bI_0.mp h z.1)] at hK; exact hK
  · rw [if_pos ⟨dnn h, dnn h2⟩] at hK; exact hK
  · rw [if_neg (fun z => bI_0.mp h2 z.2)] at hK; exact hK
noncomputable def f132 : gD := fun Lv σ => match Lv with
  | [some (.ref q0), some (.int t), some (.int x)] => cond (Nat.beq q0 0) (some (some (SC σ), some (.int (aJa (cR σ 6) t x)), σ)) none
  | _ => none
theorem ok132 : gFok 132 f132 := by
  intro Lv σ q h hc K hK
  unfold f132 at h
  split at h
  · rename_i q0 t x
    obtain ⟨hb, h⟩ := c_no h
    have hb0 := hb
    have e0 := b_eq hb0
    subst e0
    cases h
    exact s132 (hc _ rfl) hK
  · cases h
set_option maxRecDepth 20000 in
theorem w242 {σ : gS} {K : gK} {t x : Int32} (h : (((bI (isT (σ 324) t)) = 0 → K (some (.int (-1))) σ) ∧ (¬ (bI (isT (σ 324) t)) = 0 → (((bI (isS (σ 324) x)) = 0 → K (some (.int (-1))) σ) ∧ (¬ (bI (isS (σ 324) x)) = 0 → ((0 ≤ t ∧ t < 20) ∧ 0 ≤ σ 324 3 ∧ σ 324 3 ≤ 20) ∧ K (some (.int ((fJoy (σ 324) t.toNatClampNeg x) + 100))) σ))))) : gE 242 0 [some (.ref 323), some (.int t), some (.int x)] [] σ K :=
  gw_run (cy := 242) (cuts := []) (inl := []) (pf := gpec) gpec_ok 400 (by decide) h
theorem s242 {σ : gS} {K : gK} {t x : Int32} (hc : RS σ) (hK : K (some (.int (aJa (σ 324) t x))) σ) : gE 242 0 [some (.ref 323), some (.int t), some (.int x)] [] σ K := by
  obtain ⟨⟨h3, h9⟩, hu⟩ := hc
  unfold aJa at hK
  refine w242 ⟨fun h => ?_, fun h => ⟨fun h2 => ?_, fun h2 => ⟨⟨isT_of h3 (dnn h), h3⟩, ?_⟩⟩⟩
  · rw [if_neg (fun z => bI_0.mp h z.1)] at hK; exact hK
  · rw [if_neg (fun z => bI_0.mp h2 z.2)] at hK; exact hK
  · rw [if_pos ⟨dnn h, dnn h2⟩] at hK; exact hK
noncomputable def f242 : gD := fun Lv σ => match Lv with
  | [some (.ref q0), some (.int t), some (.int x)] => cond (Nat.beq q0 323) (some (some (RS σ), some (.int (aJa (σ 324) t x)), σ)) none
  | _ => none
theorem ok242 : gFok 242 f242 := by
  intro Lv σ q h hc K hK
  unfold f242 at h
  split at h
  · rename_i q0 t x
    obtain ⟨hb, h⟩ := c_no h
    have hb0 := hb
    have e0 := b_eq hb0
    subst e0
    cases h
    exact s242 (hc _ rfl) hK
  · cases h
set_option maxRecDepth 20000 in
theorem w133 {σ : gS} {K : gK} {a b w : Int32} (h : ((¬ (bI (isP (cR σ 6) a b)) = 0 → ((0 : Int) + 3 = 2 + 1 ∧ ((w = 0 → (isN σ 6 a ∧ isN σ 6 b ∧ TC σ 6) ∧ K (some (.int ((fRise (cR σ 6) a.toNatClampNeg b.toNatClampNeg a.toNatClampNeg) + 100))) σ) ∧ (¬ w = 0 → ((w = 1 → (isN σ 6 b ∧ isN σ 6 a ∧ TC σ 6) ∧ K (some (.int ((fRise (cR σ 6) b.toNatClampNeg a.toNatClampNeg b.toNatClampNeg) + 100))) σ) ∧ (¬ w = 1 → ((w = 2 → (isN σ 6 a ∧ isN σ 6 b ∧ TC σ 6) ∧ K (some (.int ((fJa (rsw (cR σ 6) a.toNatClampNeg b.toNatClampNeg)) + 1000))) σ) ∧ (¬ w = 2 → K (some (.int (-1))) σ)))))))) ∧ ((bI (isP (cR σ 6) a b)) = 0 → K (some (.int (-1))) σ))) : gE 133 0 [some (.ref 0), some (.int a), some (.int b), some (.int w)] [] σ K :=
  gw_run (cy := 133) (cuts := []) (inl := []) (pf := gpec) gpec_ok 400 (by decide) h
theorem s133 {σ : gS} {K : gK} {a b w : Int32} (hc : SC σ) (hK : K (some (.int (aIs (cR σ 6) a b w))) σ) : gE 133 0 [some (.ref 0), some (.int a), some (.int b), some (.int w)] [] σ K := by
  obtain ⟨hT, hP, hL, h0⟩ := hc
  have h7 : 0 ≤ σ 6 7 ∧ σ 6 7 ≤ 20 := SC_7 ⟨hT, hP, hL, h0⟩
  unfold aIs at hK
  refine w133 ⟨fun h => ?_, fun h => ?_⟩
  · have h := dnn h
    have na := isN_of hT.1 h.1.1
    have nb := isN_of hT.1 h.1.2
    rw [if_pos h] at hK
    refine ⟨by decide, fun h2 => ⟨⟨na, nb, hT⟩, ?_⟩, fun h2 => ⟨fun h3 => ⟨⟨nb, na, hT⟩, ?_⟩, fun h3 => ⟨fun h4 => ⟨⟨na, nb, hT⟩, ?_⟩, fun h4 => ?_⟩⟩⟩
    · rw [if_pos h2] at hK; exact hK
    · rw [if_neg h2, if_pos h3] at hK
      have e : fRise (cR σ 6) b.toNatClampNeg a.toNatClampNeg b.toNatClampNeg = fRise (cR σ 6) a.toNatClampNeg b.toNatClampNeg b.toNatClampNeg := by
        unfold fRise
        rw [rsw_cm]
      rw [e]; exact hK
    · rw [if_neg h2, if_neg h3, if_pos h4] at hK; exact hK
    · rw [if_neg h2, if_neg h3, if_neg h4] at hK; exact hK
  · rw [if_neg (bI_0.mp h)] at hK; exact hK
noncomputable def f133 : gD := fun Lv σ => match Lv with
  | [some (.ref q0), some (.int a), some (.int b), some (.int w)] => cond (Nat.beq q0 0) (some (some (SC σ), some (.int (aIs (cR σ 6) a b w)), σ)) none
  | _ => none
theorem ok133 : gFok 133 f133 := by
  intro Lv σ q h hc K hK
  unfold f133 at h
  split at h
  · rename_i q0 a b w
    obtain ⟨hb, h⟩ := c_no h
    have hb0 := hb
    have e0 := b_eq hb0
    subst e0
    cases h
    exact s133 (hc _ rfl) hK
  · cases h
set_option maxRecDepth 20000 in
theorem w243 {σ : gS} {K : gK} {a b w : Int32} (h : ((¬ (bI (isP (σ 324) a b)) = 0 → ((0 : Int) + 3 = 2 + 1 ∧ ((w = 0 → (((0 ≤ a ∧ a < 20) ∧ (0 ≤ b ∧ b < 20)) ∧ (0 ≤ a ∧ a < 20) ∧ 0 ≤ σ 324 3 ∧ σ 324 3 ≤ 20) ∧ K (some (.int ((fRise (σ 324) a.toNatClampNeg b.toNatClampNeg a.toNatClampNeg) + 100))) σ) ∧ (¬ w = 0 → ((w = 1 → (((0 ≤ a ∧ a < 20) ∧ (0 ≤ b ∧ b < 20)) ∧ (0 ≤ b ∧ b < 20) ∧ 0 ≤ σ 324 3 ∧ σ 324 3 ≤ 20) ∧ K (some (.int ((fRise (σ 324) a.toNatClampNeg b.toNatClampNeg b.toNatClampNeg) + 100))) σ) ∧ (¬ w = 1 → ((w = 2 → (0 ≤ σ 324 3 ∧ σ 324 3 ≤ 20) ∧ (((0 ≤ a ∧ a < 20) ∧ (0 ≤ b ∧ b < 20)) ∧ 0 ≤ σ 324 3 ∧ σ 324 3 ≤ 20) ∧ K (some (.int (((fJa (σ 324)) + (fRA (σ 324) a.toNatClampNeg b.toNatClampNeg)) + 1000))) σ) ∧ (¬ w = 2 → K (some (.int (-1))) σ)))))))) ∧ ((bI (isP (σ 324) a b)) = 0 → K (some (.int (-1))) σ))) : gE 243 0 [some (.ref 323), some (.int a), some (.int b), some (.int w)] [] σ K :=
  gw_run (cy := 243) (cuts := []) (inl := []) (pf := gpec) gpec_ok 400 (by decide) h
theorem s243 {σ : gS} {K : gK} {a b w : Int32} (hc : RS σ) (hK : K (some (.int (aIs (σ 324) a b w))) σ) : gE 243 0 [some (.ref 323), some (.int a), some (.int b), some (.int w)] [] σ K := by
  obtain ⟨⟨h3, h9⟩, hu⟩ := hc
  unfold aIs at hK
  refine w243 ⟨fun h => ?_, fun h => ?_⟩
  · have h := dnn h
    have hp := isP_of h3 h
    rw [if_pos h] at hK
    refine ⟨by decide, fun h2 => ⟨⟨hp, hp.1, h3⟩, ?_⟩, fun h2 => ⟨fun h4 => ⟨⟨hp, hp.2, h3⟩, ?_⟩, fun h4 => ⟨fun h5 => ⟨h3, ⟨hp, h3⟩, ?_⟩, fun h5 => ?_⟩⟩⟩
    · rw [if_pos h2] at hK; exact hK
    · rw [if_neg h2, if_pos h4] at hK; exact hK
    · rw [if_neg h2, if_neg h4, if_pos h5] at hK
      have e : fJa (σ 324) + fRA (σ 324) a.toNatClampNeg b.toNatClampNeg = fJa (rsw (σ 324) a.toNatClampNeg b.toNatClampNeg) := by
        unfold fRA
        grind
      rw [e]; exact hK
    · rw [if_neg h2, if_neg h4, if_neg h5] at hK; exact hK
  · rw [if_neg (bI_0.mp h)] at hK; exact hK
noncomputable def f243 : gD := fun Lv σ => match Lv with
  | [some (.ref q0), some (.int a), some (.int b), some (.int w)] => cond (Nat.beq q0 323) (some (some (RS σ), some (.int (aIs (σ 324) a b w)), σ)) none
  | _ => none
theorem ok243 : gFok 243 f243 := by
  intro Lv σ q h hc K hK
  unfold f243 at h
  split at h
  · rename_i q0 a b w
    obtain ⟨hb, h⟩ := c_no h
    have hb0 := hb
    have e0 := b_eq hb0
    subst e0
    cases h
    exact s243 (hc _ rfl) hK
  · cases h
set_option maxRecDepth 20000 in
theorem w139 {σ : gS} {K : gK} {x : Int32} (h : (((bI ((0 : Int32) ≤ x ∧ x ≤ (σ 6 4))) = 0 → K (some (.int (-1))) σ) ∧ (¬ (bI ((0 : Int32) ≤ x ∧ x ≤ (σ 6 4))) = 0 → (0 ≤ σ 6 7 ∧ σ 6 7 ≤ 20 ∧ bT (cR σ 6)) ∧ K (some (.int (fBar (cR σ 6) x))) σ))) : gE 139 0 [some (.ref 0), some (.int x)] [] σ K :=
  gw_run (cy := 139) (cuts := []) (inl := []) (pf := gpec) gpec_ok 400 (by decide) h
theorem s139 {σ : gS} {K : gK} {x : Int32} (hc : SC σ) (hK : K (some (.int (aIf (cR σ 6) x))) σ) : gE 139 0 [some (.ref 0), some (.int x)] [] σ K := by
  obtain ⟨hT, hP, hL, h0⟩ := hc
  have h7 : 0 ≤ σ 6 7 ∧ σ 6 7 ≤ 20 := SC_7 ⟨hT, hP, hL, h0⟩
  unfold aIf at hK
  rw [cR_0] at hK
  refine w139 ⟨fun h => ?_, fun h => ⟨⟨h7.1, h7.2, hT.2.1⟩, ?_⟩⟩
  · rw [if_neg (bI_0.mp h)] at hK; exact hK
  · rw [if_pos (dnn h)] at hK; exact hK
noncomputable def f139 : gD := fun Lv σ => match Lv with
  | [some (.ref q0), some (.int x)] => cond (Nat.beq q0 0) (some (some (SC σ), some (.int (aIf (cR σ 6) x)), σ)) none
  | _ => none
theorem ok139 : gFok 139 f139 := by
  intro Lv σ q h hc K hK
  unfold f139 at h
  split at h
  · rename_i q0 x
    obtain ⟨hb, h⟩ := c_no h
    have hb0 := hb
    have e0 := b_eq hb0
    subst e0
    cases h
    exact s139 (hc _ rfl) hK
  · cases h
set_option maxRecDepth 20000 in
theorem w249 {σ : gS} {K : gK} {x : Int32} (h : (0 ≤ (0 : Int32) ∧ (0 : Int32) < 330) ∧ (((bI ((0 : Int32) ≤ x ∧ x ≤ (σ 324 0))) = 0 → K (some (.int (-1))) σ) ∧ (¬ (bI ((0 : Int32) ≤ x ∧ x ≤ (σ 324 0))) = 0 → (0 ≤ σ 324 3 ∧ σ 324 3 ≤ 20) ∧ K (some (.int (fBar (σ 324) x))) σ))) : gE 249 0 [some (.ref 323), some (.int x)] [] σ K :=
  gw_run (cy := 249) (cuts := []) (inl := []) (pf := gpec) gpec_ok 400 (by decide) h
theorem s249 {σ : gS} {K : gK} {x : Int32} (hc : RS σ) (hK : K (some (.int (aIf (σ 324) x))) σ) : gE 249 0 [some (.ref 323), some (.int x)] [] σ K := by
  obtain ⟨⟨h3, h9⟩, hu⟩ := hc
  unfold aIf at hK
  refine w249 ⟨by decide, fun h => ?_, fun h => ⟨h3, ?_⟩⟩
  · rw [if_neg (bI_0.mp h)] at hK; exact hK
  · rw [if_pos (dnn h)] at hK; exact hK
noncomputable def f249 : gD := fun Lv σ => match Lv with
  | [some (.ref q0), some (.int x)] => cond (Nat.beq q0 323) (some (some (RS σ), some (.int (aIf (σ 324) x)), σ)) none
  | _ => none
theorem ok249 : gFok 249 f249 := by
  intro Lv σ q h hc K hK
  unfold f249 at h
  split at h
  · rename_i q0 x
    obtain ⟨hb, h⟩ := c_no h
    have hb0 := hb
    have e0 := b_eq hb0
    subst e0
    cases h
    exact s249 (hc _ rfl) hK
  · cases h
set_option maxRecDepth 20000 in
theorem w134 {σ : gS} {K : gK} {a b : Int32} (h : ((¬ (bI (isP (cR σ 6) a b)) = 0 → gE 134 13 [some (.ref 0), some (.int a), some (.int b), some (.int 0)] [] σ K) ∧ ((bI (isP (cR σ 6) a b)) = 0 → K (some (.int (-1))) σ))) : gE 134 0 [some (.ref 0), some (.int a), some (.int b), none] [] σ K :=
  gw_run (cy := 134) (cuts := [13]) (inl := []) (pf := gpec) gpec_ok 400 (by decide) h
set_option maxRecDepth 20000 in
theorem c134_13 {σ : gS} {K : gK} {l1 l2 l3 : Int32} (h : ((9 < l3 → K (some (.int (-2))) σ) ∧ (¬ 9 < l3 → (isN σ 6 l1 ∧ isN σ 6 l2 ∧ TC σ 6) ∧ ((¬ (fWhy (cR σ 6) l1.toNatClampNeg l2.toNatClampNeg l3) = 0 → gE 134 13 [some (.ref 0), some (.int l1), some (.int l2), some (.int (l3 + 1))] [] σ K) ∧ ((fWhy (cR σ 6) l1.toNatClampNeg l2.toNatClampNeg l3) = 0 → K (some (.int l3)) σ))))) : gE 134 13 [some (.ref 0), some (.int l1), some (.int l2), some (.int l3)] [] σ K :=
  gw_run (cy := 134) (cuts := [13]) (inl := []) (pf := gpec) gpec_ok 400 (by decide) h
theorem s134 {σ : gS} {K : gK} {a b : Int32} (hc : SC σ) (hK : K (some (.int (aLe (cR σ 6) a b))) σ) : gE 134 0 [some (.ref 0), some (.int a), some (.int b), none] [] σ K := by
  obtain ⟨hT, hP, hL, h0⟩ := hc
  have h7 : 0 ≤ σ 6 7 ∧ σ 6 7 ≤ 20 := SC_7 ⟨hT, hP, hL, h0⟩
  unfold aLe at hK
  refine w134 ⟨fun h => ?_, fun h => ?_⟩
  · have hp := dnn h
    rw [if_pos hp] at hK
    have key : ∀ d s, s + d = 10 → K (some (.int (lea (cR σ 6) a.toNatClampNeg b.toNatClampNeg d s))) σ → gE 134 13 [some (.ref 0), some (.int a), some (.int b), some (.int (iN s))] [] σ K := by
      intro d
      induction d with
      | zero =>
        intro s hs hK
        have : s = 10 := by omega
        subst this
        exact c134_13 ⟨fun _ => hK, fun z => absurd (by decide) z⟩
      | succ d ih =>
        intro s hs hK
        unfold lea at hK
        refine c134_13 ⟨fun z => absurd ((iN_lt (k := 9) (by decide) (by omega)).mp z) (by omega), fun _ => ⟨⟨isN_of hT.1 hp.1.1, isN_of hT.1 hp.1.2, hT⟩, fun z => ?_, fun z => ?_⟩⟩
        · rw [if_neg z] at hK
          rw [iN_one]
          exact ih (s + 1) (by omega) hK
        · rw [if_pos z] at hK
          exact hK
    exact key 10 0 rfl hK
  · rw [if_neg (bI_0.mp h)] at hK; exact hK
noncomputable def f134 : gD := fun Lv σ => match Lv with
  | [some (.ref q0), some (.int a), some (.int b), none] => cond (Nat.beq q0 0) (some (some (SC σ), some (.int (aLe (cR σ 6) a b)), σ)) none
  | _ => none
theorem ok134 : gFok 134 f134 := by
  intro Lv σ q h hc K hK
  unfold f134 at h
  split at h
  · rename_i q0 a b
    obtain ⟨hb, h⟩ := c_no h
    have hb0 := hb
    have e0 := b_eq hb0
    subst e0
    cases h
    exact s134 (hc _ rfl) hK
  · cases h
set_option maxRecDepth 20000 in
theorem w244 {σ : gS} {K : gK} {a b : Int32} (h : ((¬ (bI (isP (σ 324) a b)) = 0 → gE 244 13 [some (.ref 323), some (.int a), some (.int b), some (.int 0)] [] σ K) ∧ ((bI (isP (σ 324) a b)) = 0 → K (some (.int (-1))) σ))) : gE 244 0 [some (.ref 323), some (.int a), some (.int b), none] [] σ K :=
  gw_run (cy := 244) (cuts := [13]) (inl := []) (pf := gpec) gpec_ok 400 (by decide) h
set_option maxRecDepth 20000 in
theorem c244_13 {σ : gS} {K : gK} {l1 l2 l3 : Int32} (h : ((9 < l3 → K (some (.int (-2))) σ) ∧ (¬ 9 < l3 → (((0 ≤ l1 ∧ l1 < 20) ∧ (0 ≤ l2 ∧ l2 < 20)) ∧ 0 ≤ σ 324 3 ∧ σ 324 3 ≤ 20) ∧ ((¬ (fWhy (σ 324) l1.toNatClampNeg l2.toNatClampNeg l3) = 0 → gE 244 13 [some (.ref 323), some (.int l1), some (.int l2), some (.int (l3 + 1))] [] σ K) ∧ ((fWhy (σ 324) l1.toNatClampNeg l2.toNatClampNeg l3) = 0 → K (some (.int l3)) σ))))) : gE 244 13 [some (.ref 323), some (.int l1), some (.int l2), some (.int l3)] [] σ K :=
  gw_run (cy := 244) (cuts := [13]) (inl := []) (pf := gpec) gpec_ok 400 (by decide) h
theorem s244 {σ : gS} {K : gK} {a b : Int32} (hc : RS σ) (hK : K (some (.int (aLe (σ 324) a b))) σ) : gE 244 0 [some (.ref 323), some (.int a), some (.int b), none] [] σ K := by
  obtain ⟨⟨h3, h9⟩, hu⟩ := hc
  unfold aLe at hK
  refine w244 ⟨fun h => ?_, fun h => ?_⟩
  · have hp := dnn h
    rw [if_pos hp] at hK
    have key : ∀ d s, s + d = 10 → K (some (.int (lea (σ 324) a.toNatClampNeg b.toNatClampNeg d s))) σ → gE 244 13 [some (.ref 323), some (.int a), some (.int b), some (.int (iN s))] [] σ K := by
      intro d
      induction d with
      | zero =>
        intro s hs hK
        have : s = 10 := by omega
        subst this
        exact c244_13 ⟨fun _ => hK, fun z => absurd (by decide) z⟩
      | succ d ih =>
        intro s hs hK
        unfold lea at hK
        refine c244_13 ⟨fun z => absurd ((iN_lt (k := 9) (by decide) (by omega)).mp z) (by omega), fun _ => ⟨⟨isP_of h3 hp, h3⟩, fun z => ?_, fun z => ?_⟩⟩
        · rw [if_neg z] at hK
          rw [iN_one]
          exact ih (s + 1) (by omega) hK
        · rw [if_pos z] at hK
          exact hK
    exact key 10 0 rfl hK
  · rw [if_neg (bI_0.mp h)] at hK; exact hK
noncomputable def f244 : gD := fun Lv σ => match Lv with
  | [some (.ref q0), some (.int a), some (.int b), none] => cond (Nat.beq q0 323) (some (some (RS σ), some (.int (aLe (σ 324) a b)), σ)) none
  | _ => none
theorem ok244 : gFok 244 f244 := by
  intro Lv σ q h hc K hK
  unfold f244 at h
  split at h
  · rename_i q0 a b
    obtain ⟨hb, h⟩ := c_no h
    have hb0 := hb
    have e0 := b_eq hb0
    subst e0
    cases h
    exact s244 (hc _ rfl) hK
  · cases h
noncomputable def aSt (R : gW) (w : Int32) : Int32 := if 0 ≤ w ∧ w ≤ 2 then (if w = 0 then iN (fSt 99 R).1 else if w = 1 then fJa (fSt 99 R).2 + 10000 else fGr (fSt 99 R).2) else -1
noncomputable def cSx (σ : gS) (w : Int32) : Int32 := if 0 ≤ w ∧ w ≤ 2 then (if w = 0 then iN (cSt 99 (cCo σ 32 6)).1 else if w = 1 then fJa (cR (cSt 99 (cCo σ 32 6)).2 32) + 10000 else fGr (cR (cSt 99 (cCo σ 32 6)).2 32)) else -1
theorem clX_x : ∃ f : gS → Int32 → gS, ∀ σ w, f σ w = if 0 ≤ w ∧ w ≤ 2 then (cSt 99 (cCo σ 32 6)).2 else σ := ⟨fun σ w => if 0 ≤ w ∧ w ≤ 2 then (cSt 99 (cCo σ 32 6)).2 else σ, fun _ _ => rfl⟩
noncomputable def clX : gS → Int32 → gS := Classical.choose clX_x
theorem clX_e : ∀ σ w, clX σ w = if 0 ≤ w ∧ w ≤ 2 then (cSt 99 (cCo σ 32 6)).2 else σ := Classical.choose_spec clX_x
theorem hSx_x : ∃ f : gS → Int32 → gS, ∀ σ w, f σ w = if 0 ≤ w ∧ w ≤ 2 then grow σ 326 (fSt 99 (σ 324)).2 else σ := ⟨fun σ w => if 0 ≤ w ∧ w ≤ 2 then grow σ 326 (fSt 99 (σ 324)).2 else σ, fun _ _ => rfl⟩
noncomputable def hSx : gS → Int32 → gS := Classical.choose hSx_x
theorem hSx_e : ∀ σ w, hSx σ w = if 0 ≤ w ∧ w ≤ 2 then grow σ 326 (fSt 99 (σ 324)).2 else σ := Classical.choose_spec hSx_x
set_option maxRecDepth 20000 in
theorem w138 {σ : gS} {K : gK} {w : Int32} (h : ((¬ (bI ((0 : Int32) ≤ w ∧ w ≤ (2 : Int32))) = 0 → ((0 ≤ σ 6 7 ∧ σ 6 7 ≤ 20) ∧ TC (cCo σ 32 6) 32) ∧ ((w = 0 → K (some (.int (iN (cSt 99 (cCo σ 32 6)).1))) ((cSt 99 (cCo σ 32 6)).2)) ∧ (¬ w = 0 → ((w = 1 → (TC ((cSt 99 (cCo σ 32 6)).2) 32) ∧ K (some (.int ((fJa (cR ((cSt 99 (cCo σ 32 6)).2) 32)) + 10000))) ((cSt 99 (cCo σ 32 6)).2)) ∧ (¬ w = 1 → (TC ((cSt 99 (cCo σ 32 6)).2) 32) ∧ K (some (.int (fGr (cR ((cSt 99 (cCo σ 32 6)).2) 32)))) ((cSt 99 (cCo σ 32 6)).2)))))) ∧ ((bI ((0 : Int32) ≤ w ∧ w ≤ (2 : Int32))) = 0 → K (some (.int (-1))) σ))) : gE 138 0 [some (.ref 0), some (.int w), none] [] σ K :=
  gw_run (cy := 138) (cuts := []) (inl := []) (pf := gpec) gpec_ok 400 (by decide) h
theorem s138 {σ : gS} {K : gK} {w : Int32} (hc : SC σ ∧ TC (cCo σ 32 6) 32) (hK : K (some (.int (cSx σ w))) (clX σ w)) : gE 138 0 [some (.ref 0), some (.int w), none] [] σ K := by
  obtain ⟨hc, ht⟩ := hc
  obtain ⟨hT, hP, hL, h0⟩ := hc
  have h7 : 0 ≤ σ 6 7 ∧ σ 6 7 ≤ 20 := SC_7 ⟨hT, hP, hL, h0⟩
  obtain ⟨t1, l1, f1⟩ := cSt_tc (d := 99) ht
  rw [clX_e] at hK
  unfold cSx at hK
  refine w138 ⟨fun h => ⟨⟨h7, ht⟩, fun h2 => ?_, fun h2 => ⟨fun h3 => ⟨t1, ?_⟩, fun h3 => ⟨t1, ?_⟩⟩⟩, fun h => ?_⟩
  · rw [if_pos (dnn h), if_pos (dnn h), if_pos h2] at hK; exact hK
  · rw [if_pos (dnn h), if_pos (dnn h), if_neg h2, if_pos h3] at hK; exact hK
  · rw [if_pos (dnn h), if_pos (dnn h), if_neg h2, if_neg h3] at hK; exact hK
  · rw [if_neg (bI_0.mp h), if_neg (bI_0.mp h)] at hK; exact hK
noncomputable def f138 : gD := fun Lv σ => match Lv with
  | [some (.ref q0), some (.int w), none] => cond (Nat.beq q0 0) (some (some (SC σ ∧ TC (cCo σ 32 6) 32), some (.int (cSx σ w)), clX σ w)) none
  | _ => none
theorem ok138 : gFok 138 f138 := by
  intro Lv σ q h hc K hK
  unfold f138 at h
  split at h
  · rename_i q0 w
    obtain ⟨hb, h⟩ := c_no h
    have hb0 := hb
    have e0 := b_eq hb0
    subst e0
    cases h
    exact s138 (hc _ rfl) hK
  · cases h
set_option maxRecDepth 20000 in
theorem w248 {σ : gS} {K : gK} {w : Int32} (h : ((¬ (bI ((0 : Int32) ≤ w ∧ w ≤ (2 : Int32))) = 0 → (RZ σ) ∧ (0 ≤ (grow σ 326 (σ 324)) 326 3 ∧ (grow σ 326 (σ 324)) 326 3 ≤ 20) ∧ ((¬ w = 0 → ((¬ w = 1 → (0 ≤ (grow (grow σ 326 (σ 324)) 326 (fSt 99 ((grow σ 326 (σ 324)) 326)).2) 326 3 ∧ (grow (grow σ 326 (σ 324)) 326 (fSt 99 ((grow σ 326 (σ 324)) 326)).2) 326 3 ≤ 20) ∧ K (some (.int (fGr ((grow (grow σ 326 (σ 324)) 326 (fSt 99 ((grow σ 326 (σ 324)) 326)).2) 326)))) (grow (grow σ 326 (σ 324)) 326 (fSt 99 ((grow σ 326 (σ 324)) 326)).2)) ∧ (w = 1 → (0 ≤ (grow (grow σ 326 (σ 324)) 326 (fSt 99 ((grow σ 326 (σ 324)) 326)).2) 326 3 ∧ (grow (grow σ 326 (σ 324)) 326 (fSt 99 ((grow σ 326 (σ 324)) 326)).2) 326 3 ≤ 20) ∧ K (some (.int ((fJa ((grow (grow σ 326 (σ 324)) 326 (fSt 99 ((grow σ 326 (σ 324)) 326)).2) 326)) + 10000))) (grow (grow σ 326 (σ 324)) 326 (fSt 99 ((grow σ 326 (σ 324)) 326)).2)))) ∧ (w = 0 → K (some (.int (iN (fSt 99 ((grow σ 326 (σ 324)) 326)).1))) (grow (grow σ 326 (σ 324)) 326 (fSt 99 ((grow σ 326 (σ 324)) 326)).2)))) ∧ ((bI ((0 : Int32) ≤ w ∧ w ≤ (2 : Int32))) = 0 → K (some (.int (-1))) σ))) : gE 248 0 [some (.ref 323), some (.int w), none] [] σ K :=
  gw_run (cy := 248) (cuts := []) (inl := []) (pf := gpec) gpec_ok 400 (by decide) h
theorem s248 {σ : gS} {K : gK} {w : Int32} (hc : RS σ ∧ RZ σ) (hK : K (some (.int (aSt (σ 324) w))) (hSx σ w)) : gE 248 0 [some (.ref 323), some (.int w), none] [] σ K := by
  obtain ⟨hc, hz⟩ := hc
  obtain ⟨⟨h3, h9⟩, hu⟩ := hc
  rw [hSx_e] at hK
  unfold aSt at hK
  have s3 : 0 ≤ (fSt 99 (σ 324)).2 3 ∧ (fSt 99 (σ 324)).2 3 ≤ 20 := by rw [fSt_3]; exact h3
  refine w248 ?_
  simp only [grow_at, grow_grow]
  refine ⟨fun h => ⟨hz, h3, fun h2 => ⟨fun h4 => ⟨s3, ?_⟩, fun h4 => ⟨s3, ?_⟩⟩, fun h2 => ?_⟩, fun h => ?_⟩
  · rw [if_pos (dnn h), if_pos (dnn h), if_neg h2, if_neg h4] at hK; exact hK
  · rw [if_pos (dnn h), if_pos (dnn h), if_neg h2, if_pos h4] at hK; exact hK
  · rw [if_pos (dnn h), if_pos (dnn h), if_pos h2] at hK; exact hK
  · rw [if_neg (bI_0.mp h), if_neg (bI_0.mp h)] at hK; exact hK
noncomputable def f248 : gD := fun Lv σ => match Lv with
  | [some (.ref q0), some (.int w), none] => cond (Nat.beq q0 323) (some (some (RS σ ∧ RZ σ), some (.int (aSt (σ 324) w)), hSx σ w)) none
  | _ => none
theorem ok248 : gFok 248 f248 := by
  intro Lv σ q h hc K hK
  unfold f248 at h
  split at h
  · rename_i q0 w
    obtain ⟨hb, h⟩ := c_no h
    have hb0 := hb
    have e0 := b_eq hb0
    subst e0
    cases h
    exact s248 (hc _ rfl) hK
  · cases h
noncomputable def gped_l : List (Nat × gD) := (126, f126) :: (231, f231) :: (130, f130) :: (240, f240) :: (131, f131) :: (241, f241) :: (132, f132) :: (242, f242) :: (133, f133) :: (243, f243) :: (139, f139) :: (249, f249) :: (134, f134) :: (244, f244) :: (138, f138) :: (248, f248) :: gpec_l
noncomputable def gped : gP := gpl0 gped_l
theorem gped_ok : gPok gped := gpl0_cons ok126 (gpl0_cons ok231 (gpl0_cons ok130 (gpl0_cons ok240 (gpl0_cons ok131 (gpl0_cons ok241 (gpl0_cons ok132 (gpl0_cons ok242 (gpl0_cons ok133 (gpl0_cons ok243 (gpl0_cons ok139 (gpl0_cons ok249 (gpl0_cons ok134 (gpl0_cons ok244 (gpl0_cons ok138 (gpl0_cons ok248 (gpec_ok))))))))))))))))
