-- text 109
/-! THE REFERENCE: the plan is written -/
noncomputable def sgr (R : gW) (x : Int32) : Int32 := if fWho R x < 0 then 46 else iN (lOf (R (9 + 10 * (fWho R x).toNatClampNeg + 9)) 0) + (if fJo R (fWho R x).toNatClampNeg < 0 then 64 else 96)
noncomputable def plr (R : gW) (r c : Nat) : Int32 := if c = 0 then (if iN r < R 1 then 61 else 45) else if c = 1 then (if isFwd (iN r) then 62 else 60) else if c = 6 then 10 else sgr R (4 * iN r + iN (c - 2))
noncomputable def plB (R : gW) (j : Nat) : Int32 := plr R (j / 7) (j % 7)
/-- w bytes of the plan are written -/
noncomputable def Wp (σ : gS) (w : Nat) (τ : gS) : Prop := Wf σ τ ∧ τ 323 17 = iN w ∧ ∀ j, j < w → τ 331 j = plB (σ 324) j
theorem z253 {σ τ : gS} {P : gS → Prop} {w : Nat} {x : Int32} (h : Wp σ w τ) (hb : w < 1700) (hx : plB (σ 324) w = x) (hP : ∀ τ', Wp σ (w + 1) τ' → P τ') : gXv 253 [some (.ref 323), some (.int x)] τ P := by
  obtain ⟨⟨h1, h2⟩, e, hB⟩ := h
  refine w253 ⟨?_, rfl, hP _ ⟨⟨fun q q1 q2 => ?_, fun j hj => ?_⟩, ?_, fun j hj => ?_⟩⟩
  · rw [e]
    exact ⟨(iN_le (k := 0) (by decide) (by omega)).mpr (by omega), (iN_lt (m := 1700) (by omega) (by decide)).mpr (by omega)⟩
  · rw [← h1 q q1 q2]
    funext i
    rw [gup_ne (by omega), gup_ne (by omega)]
  · rw [gup_ne (by omega), gup_ne (by omega)]
    exact h2 j hj
  · rw [gup_at, gup_ne (by omega), e, iN_one]
  · rw [gup_ne (by omega), e, iN_nat (by omega)]
    by_cases q : j = w
    · subst q
      rw [gup_at]
      exact hx.symm
    · rw [gup_ne (by omega)]
      exact hB j (by omega)
set_option maxRecDepth 20000 in
theorem w256 {σ : gS} {K : gK} {x : Int32} (h : (0 ≤ σ 324 3 ∧ σ 324 3 ≤ 20) ∧ ((¬ (fWho (σ 324) x) < 0 → (0 ≤ (9 + 10 * (fWho (σ 324) x) + (9 : Int32)) ∧ (9 + 10 * (fWho (σ 324) x) + (9 : Int32)) < 330) ∧ (0 ≤ (σ 324 (9 + 10 * (fWho (σ 324) x) + (9 : Int32)).toNatClampNeg) ∧ (0 ≤ (0 : Int32) ∧ (0 : Int32) < 20)) ∧ ((0 ≤ (fWho (σ 324) x) ∧ (fWho (σ 324) x) < 20) ∧ 0 ≤ σ 324 3 ∧ σ 324 3 ≤ 20) ∧ ((¬ (fJo (σ 324) (fWho (σ 324) x).toNatClampNeg) < 0 → gXv 253 [some (.ref 323), some (.int ((iN (lOf (σ 324 (9 + 10 * (fWho (σ 324) x) + (9 : Int32)).toNatClampNeg) (0 : Int32).toNatClampNeg)) + 96))] σ (fun s1 => K none s1)) ∧ ((fJo (σ 324) (fWho (σ 324) x).toNatClampNeg) < 0 → gXv 253 [some (.ref 323), some (.int ((iN (lOf (σ 324 (9 + 10 * (fWho (σ 324) x) + (9 : Int32)).toNatClampNeg) (0 : Int32).toNatClampNeg)) + 64))] σ (fun s2 => K none s2)))) ∧ ((fWho (σ 324) x) < 0 → gXv 253 [some (.ref 323), some (.int 46)] σ (fun s3 => K none s3)))) : gE 256 0 [some (.ref 323), some (.int x), none] [] σ K :=
  gw_run (cy := 256) (cuts := []) (inl := []) (pf := gpen) gpen_ok 400 (by decide) h
theorem z256 {σ τ : gS} {P : gS → Prop} {w : Nat} {x : Int32} (h3 : 0 ≤ σ 324 3 ∧ σ 324 3 ≤ 20) (hn : nmG (σ 324)) (h : Wp σ w τ) (hb : w < 1700) (hx : plB (σ 324) w = sgr (σ 324) x) (hP : ∀ τ', Wp σ (w + 1) τ' → P τ') : gXv 256 [some (.ref 323), some (.int x), none] τ P := by
  have e24 : τ 324 = σ 324 := h.1.1 324 (by decide) (by decide)
  refine w256 ?_
  rw [e24]
  unfold sgr at hx
  refine ⟨h3, fun q => ?_, fun q => ?_⟩
  · rw [if_neg q] at hx
    have hw := fWho_w h3 (fun z => q (by rw [z]; decide))
    obtain ⟨et, lt⟩ := t20 hw.1
    have hk := hw.2
    obtain ⟨k, ek⟩ : ∃ k, (fWho (σ 324) x).toNatClampNeg = k := ⟨_, rfl⟩
    rw [ek] at et lt hk hx
    rw [et, ix9 lt, iN_nat (by omega)]
    have nn := hn k hk
    refine ⟨ixb9 lt, ⟨nn.1, by decide⟩, ⟨b20 lt, h3⟩, fun q2 => ?_, fun q2 => ?_⟩
    · rw [if_neg q2] at hx
      exact z253 h hb hx (fun τ1 h1 => ⟨rfl, hP τ1 h1⟩)
    · rw [if_pos q2] at hx
      exact z253 h hb hx (fun τ1 h1 => ⟨rfl, hP τ1 h1⟩)
  · rw [if_pos q] at hx
    exact z253 h hb hx (fun τ1 h1 => ⟨rfl, hP τ1 h1⟩)
set_option maxRecDepth 20000 in
theorem w255 {σ : gS} {K : gK} (h : gE 255 7 [some (.ref 323), some (.int 0), none] [] (gup σ 323 17 0) K) : gE 255 0 [some (.ref 323), none, none] [] σ K :=
  gw_run (cy := 255) (cuts := [7, 38, 56, 58, 78]) (inl := []) (pf := gpen) gpen_ok 400 (by decide) h
set_option maxRecDepth 20000 in
theorem c255_7 {σ : gS} {K : gK} {l1 : Int32} {l2 : Option Value} (h : (0 ≤ (0 : Int32) ∧ (0 : Int32) < 330) ∧ ((¬ l1 < (σ 324 0) → K none σ) ∧ (l1 < (σ 324 0) → (0 ≤ (1 : Int32) ∧ (1 : Int32) < 330) ∧ ((¬ l1 < (σ 324 1) → gXv 253 [some (.ref 323), some (.int 45)] σ (fun s1 => gE 255 38 [some (.ref 323), some (.int l1), l2] [] s1 K)) ∧ (l1 < (σ 324 1) → gXv 253 [some (.ref 323), some (.int 61)] σ (fun s2 => gE 255 38 [some (.ref 323), some (.int l1), l2] [] s2 K)))))) : gE 255 7 [some (.ref 323), some (.int l1), l2] [] σ K :=
  gw_run (cy := 255) (cuts := [7, 38, 56, 58, 78]) (inl := []) (pf := gpen) gpen_ok 400 (by decide) h
set_option maxRecDepth 20000 in
theorem c255_38 {σ : gS} {K : gK} {l1 : Int32} {l2 : Option Value} (h : (((bI (isFwd l1)) = 0 → gXv 253 [some (.ref 323), some (.int 60)] σ (fun s1 => gE 255 56 [some (.ref 323), some (.int l1), l2] [] s1 K)) ∧ (¬ (bI (isFwd l1)) = 0 → gXv 253 [some (.ref 323), some (.int 62)] σ (fun s2 => gE 255 56 [some (.ref 323), some (.int l1), l2] [] s2 K)))) : gE 255 38 [some (.ref 323), some (.int l1), l2] [] σ K :=
  gw_run (cy := 255) (cuts := [7, 38, 56, 58, 78]) (inl := []) (pf := gpen) gpen_ok 400 (by decide) h
set_option maxRecDepth 20000 in
theorem c255_56 {σ : gS} {K : gK} {l1 : Int32} {l2 : Option Value} (h : gE 255 58 [some (.ref 323), some (.int l1), some (.int 0)] [] σ K) : gE 255 56 [some (.ref 323), some (.int l1), l2] [] σ K :=
  gw_run (cy := 255) (cuts := [7, 38, 56, 58, 78]) (inl := []) (pf := gpen) gpen_ok 400 (by decide) h
set_option maxRecDepth 20000 in
theorem c255_58 {σ : gS} {K : gK} {l1 l2 : Int32} (h : ((¬ l2 < 4 → gE 255 78 [some (.ref 323), some (.int l1), some (.int l2)] [] σ K) ∧ (l2 < 4 → gXv 256 [some (.ref 323), some (.int ((4 * l1) + l2)), none] σ (fun s1 => gE 255 58 [some (.ref 323), some (.int l1), some (.int (l2 + 1))] [] s1 K)))) : gE 255 58 [some (.ref 323), some (.int l1), some (.int l2)] [] σ K :=
  gw_run (cy := 255) (cuts := [7, 38, 56, 58, 78]) (inl := []) (pf := gpen) gpen_ok 400 (by decide) h
set_option maxRecDepth 20000 in
theorem c255_78 {σ : gS} {K : gK} {l1 l2 : Int32} (h : gXv 253 [some (.ref 323), some (.int 10)] σ (fun s1 => gE 255 7 [some (.ref 323), some (.int (l1 + 1)), some (.int l2)] [] s1 K)) : gE 255 78 [some (.ref 323), some (.int l1), some (.int l2)] [] σ K :=
  gw_run (cy := 255) (cuts := [7, 38, 56, 58, 78]) (inl := []) (pf := gpen) gpen_ok 400 (by decide) h
theorem plB_at {R : gW} {r c : Nat} (hc : c < 7) : plB R (7 * r + c) = plr R r c := by
  unfold plB
  rw [show (7 * r + c) / 7 = r by omega, show (7 * r + c) % 7 = c by omega]
theorem z255 {σ : gS} {P : gS → Prop} {N : Nat} (h3 : 0 ≤ σ 324 3 ∧ σ 324 3 ≤ 20) (hn : nmG (σ 324)) (hN : N ≤ 10) (e0 : σ 324 0 = iN N) (hP : ∀ τ', Wp σ (7 * N) τ' → P τ') : gXv 255 [some (.ref 323), none, none] σ P := by
  have e24 : ∀ {w τ}, Wp σ w τ → τ 324 = σ 324 := fun h => h.1.1 324 (by decide) (by decide)
  have a7 : ∀ d r, r + d = N → ∀ u τ, Wp σ (7 * r) τ → gE 255 7 [some (.ref 323), some (.int (iN r)), u] [] τ (fun r σ1 => r = none ∧ P σ1) := by
    intro d
    induction d with
    | zero =>
      intro r hr u τ h
      refine c255_7 ?_
      rw [e24 h, e0]
      have : r = N := by omega
      subst this
      exact ⟨by decide, fun _ => ⟨rfl, hP τ h⟩, fun z => absurd ((iN_lt (by omega) (by omega)).mp z) (Nat.lt_irrefl _)⟩
    | succ d ih =>
      intro r hr u τ h
      have a78 : ∀ v τ, Wp σ (7 * r + 6) τ → gE 255 78 [some (.ref 323), some (.int (iN r)), some (.int v)] [] τ (fun r σ1 => r = none ∧ P σ1) := by
        intro v τ h
        refine c255_78 (z253 h (by omega) ?_ (fun τ1 h1 => ?_))
        · rw [plB_at (by decide)]
          rfl
        · rw [iN_one]
          exact ih (r + 1) (by omega) _ τ1 h1
      have a58 : ∀ d2 c, c + d2 = 4 → ∀ τ, Wp σ (7 * r + (2 + c)) τ → gE 255 58 [some (.ref 323), some (.int (iN r)), some (.int (iN c))] [] τ (fun r σ1 => r = none ∧ P σ1) := by
        intro d2
        induction d2 with
        | zero =>
          intro c hc τ h
          have : c = 4 := by omega
          subst this
          exact c255_58 ⟨fun _ => a78 _ τ h, fun z => absurd z (by decide)⟩
        | succ d2 ih2 =>
          intro c hc τ h
          refine c255_58 ⟨fun z => absurd ((iN_lt (m := 4) (by omega) (by decide)).mpr (by omega)) z, fun _ => z256 h3 hn h (by omega) ?_ (fun τ1 h1 => ?_)⟩
          · rw [plB_at (by omega)]
            unfold plr
            rw [if_neg (by omega), if_neg (by omega), if_neg (by omega), show 2 + c - 2 = c by omega]
          · rw [iN_one]
            exact ih2 (c + 1) (by omega) τ1 h1
      have a38 : ∀ u τ, Wp σ (7 * r + 1) τ → gE 255 38 [some (.ref 323), some (.int (iN r)), u] [] τ (fun r σ1 => r = none ∧ P σ1) := by
        intro u τ h
        have e : plB (σ 324) (7 * r + 1) = if isFwd (iN r) then 62 else 60 := by
          rw [plB_at (by decide)]
          rfl
        refine c255_38 ⟨fun z => z253 h (by omega) ?_ (fun τ1 h1 => c255_56 (a58 4 0 rfl τ1 h1)), fun z => z253 h (by omega) ?_ (fun τ1 h1 => c255_56 (a58 4 0 rfl τ1 h1))⟩
        · rw [e, if_neg (bI_0.mp z)]
        · rw [e, if_pos (dnn z)]
      have e : plB (σ 324) (7 * r) = if iN r < σ 324 1 then 61 else 45 := by
        have := plB_at (R := σ 324) (r := r) (c := 0) (by decide)
        rw [Nat.add_zero] at this
        rw [this]
        rfl
      refine c255_7 ?_
      rw [e24 h, e0]
      refine ⟨by decide, fun z => absurd ((iN_lt (by omega) (by omega)).mpr (by omega)) z, fun _ => ⟨by decide, fun z => z253 h (by omega) ?_ (fun τ1 h1 => a38 _ τ1 h1), fun z => z253 h (by omega) ?_ (fun τ1 h1 => a38 _ τ1 h1)⟩⟩
      · rw [e, if_neg z]
      · rw [e, if_pos z]
  have h0 : Wp σ 0 (gup σ 323 17 0) := ⟨⟨fun q q1 q2 => funext fun i => gup_ne (by omega), fun j hj => gup_ne (by omega)⟩, gup_at _ _ _, fun j hj => absurd hj (Nat.not_lt_zero _)⟩
  exact w255 (a7 N 0 (by omega) none _ h0)
set_option maxRecDepth 20000 in
theorem w257 {σ : gS} {K : gK} (h : gXv 255 [some (.ref 323), none, none] σ (fun s1 => K (some (.int (s1 323 17))) s1)) : gE 257 0 [some (.ref 323)] [] σ K :=
  gw_run (cy := 257) (cuts := []) (inl := []) (pf := gpen) gpen_ok 400 (by decide) h
set_option maxRecDepth 20000 in
theorem w258 {σ : gS} {K : gK} {i : Int32} (h : ((¬ i < 0 → gXv 255 [some (.ref 323), none, none] σ (fun s1 => gXi 254 [some (.ref 323), some (.int i)] s1 (fun x2 s2 => K (some (.int x2)) s2))) ∧ (i < 0 → K (some (.int (-1))) σ))) : gE 258 0 [some (.ref 323), some (.int i)] [] σ K :=
  gw_run (cy := 258) (cuts := []) (inl := []) (pf := gpen) gpen_ok 400 (by decide) h
/-- the reference's byte of the plan -/
noncomputable def rPb (R : gW) (i : Int32) : Int32 := if i < 0 then -1 else if i < R 0 * 7 then plB R i.toNatClampNeg else -2
theorem x257 {σ : gS} {P : Int32 → gS → Prop} (h3 : 0 ≤ σ 324 3 ∧ σ 324 3 ≤ 20) (h0 : 2 ≤ σ 324 0 ∧ σ 324 0 ≤ 10) (hn : nmG (σ 324)) (hP : ∀ τ', Wf σ τ' → P (σ 324 0 * 7) τ') : gXi 257 [some (.ref 323)] σ P := by
  obtain ⟨N, hN, eN, nN⟩ := row_n h0
  refine w257 (z255 h3 hn hN eN (fun τ h => ⟨_, rfl, ?_⟩))
  have := hP τ h.1
  rw [eN, show (7 : Int32) = iN 7 from rfl, iN_mul, Nat.mul_comm] at this
  rw [h.2.1]
  exact this
theorem x258 {σ : gS} {P : Int32 → gS → Prop} {i : Int32} (h3 : 0 ≤ σ 324 3 ∧ σ 324 3 ≤ 20) (h0 : 2 ≤ σ 324 0 ∧ σ 324 0 ≤ 10) (hn : nmG (σ 324)) (hP : ∀ τ', Wf σ τ' → P (rPb (σ 324) i) τ') : gXi 258 [some (.ref 323), some (.int i)] σ P := by
  obtain ⟨N, hN, eN, nN⟩ := row_n h0
  unfold rPb at hP
  refine w258 ⟨fun hi => z255 h3 hn hN eN (fun τ h => ?_), fun hi => ⟨_, rfl, ?_⟩⟩
  · have hp := hP τ h.1
    rw [if_neg hi, eN, show (7 : Int32) = iN 7 from rfl, iN_mul, Nat.mul_comm] at hp
    refine w254 ⟨fun z => ⟨_, rfl, _, rfl, ?_⟩, fun z => ⟨⟨Int32.not_lt.mp hi, ?_⟩, _, rfl, _, rfl, ?_⟩⟩
    · rw [h.2.1] at z
      rw [if_neg z] at hp
      exact hp
    · rw [h.2.1] at z
      have l : iN (7 * N) ≤ 70 := (iN_le (m := 70) (by omega) (by decide)).mpr (by omega)
      grind
    · rw [h.2.1] at z
      rw [if_pos z] at hp
      obtain ⟨ei, li⟩ := iN_of (Int32.not_lt.mp hi)
      rw [h.2.2 _ (by
        rw [ei] at z
        exact (iN_lt li (by omega)).mp z)]
      exact hp
  · have hp := hP σ ⟨fun _ _ _ => rfl, fun _ _ => rfl⟩
    rw [if_pos hi] at hp
    exact hp
