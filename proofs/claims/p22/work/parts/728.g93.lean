-- text 93
/-! THE REFERENCE: load -/
set_option maxRecDepth 20000 in
theorem w203 {σ : gS} {K : gK} (h : gE 203 2 [some (.ref 323), some (.int 0)] [] σ K) : gE 203 0 [some (.ref 323), none] [] σ K :=
  gw_run (cy := 203) (cuts := [2, 22, 42, 53, 66, 77, 94, 112, 135, 155, 169, 189, 207]) (inl := []) (pf := gpeb) gpeb_ok 400 (by decide) h
set_option maxRecDepth 20000 in
theorem c203_2 {σ : gS} {K : gK} {l1 : Int32} (h : ((¬ l1 < 330 → gE 203 22 [some (.ref 323), some (.int l1)] [] σ K) ∧ (l1 < 330 → (0 ≤ l1 ∧ l1 < 330) ∧ gE 203 2 [some (.ref 323), some (.int (l1 + 1))] [] (gup σ 325 l1.toNatClampNeg 0) K))) : gE 203 2 [some (.ref 323), some (.int l1)] [] σ K :=
  gw_run (cy := 203) (cuts := [2, 22, 42, 53, 66, 77, 94, 112, 135, 155, 169, 189, 207]) (inl := []) (pf := gpeb) gpeb_ok 400 (by decide) h
set_option maxRecDepth 20000 in
theorem c203_22 {σ : gS} {K : gK} {l1 : Int32} (h : ((0 : Int32) = 0 ∨ (0 : Int32) = 1) ∧ (NX (gup (gup (gup σ 323 11 0) 323 15 0) 323 9 (-2))) ∧ gE 203 42 [some (.ref 323), some (.int l1)] [] (rNx (gup (gup (gup σ 323 11 0) 323 15 0) 323 9 (-2))) K) : gE 203 22 [some (.ref 323), some (.int l1)] [] σ K :=
  gw_run (cy := 203) (cuts := [2, 22, 42, 53, 66, 77, 94, 112, 135, 155, 169, 189, 207]) (inl := []) (pf := gpeb) gpeb_ok 400 (by decide) h
set_option maxRecDepth 20000 in
theorem c203_42 {σ : gS} {K : gK} {l1 : Int32} (h : (NX σ) ∧ gE 203 53 [some (.ref 323), some (.int l1)] [] (rTk σ (bI (rIs σ (10984100 : Int32)))) K) : gE 203 42 [some (.ref 323), some (.int l1)] [] σ K :=
  gw_run (cy := 203) (cuts := [2, 22, 42, 53, 66, 77, 94, 112, 135, 155, 169, 189, 207]) (inl := []) (pf := gpeb) gpeb_ok 400 (by decide) h
set_option maxRecDepth 20000 in
theorem c203_53 {σ : gS} {K : gK} {l1 : Int32} (h : (NX σ) ∧ (0 ≤ (0 : Int32) ∧ (0 : Int32) < 330) ∧ gE 203 66 [some (.ref 323), some (.int l1)] [] (gup (rTn σ (2 : Int32) (10 : Int32)) 325 0 (rNm σ (2 : Int32) (10 : Int32))) K) : gE 203 53 [some (.ref 323), some (.int l1)] [] σ K :=
  gw_run (cy := 203) (cuts := [2, 22, 42, 53, 66, 77, 94, 112, 135, 155, 169, 189, 207]) (inl := []) (pf := gpeb) gpeb_ok 400 (by decide) h
set_option maxRecDepth 20000 in
theorem c203_66 {σ : gS} {K : gK} {l1 : Int32} (h : (NX σ) ∧ gE 203 77 [some (.ref 323), some (.int l1)] [] (rTk σ (bI (rIs σ (3379448 : Int32)))) K) : gE 203 66 [some (.ref 323), some (.int l1)] [] σ K :=
  gw_run (cy := 203) (cuts := [2, 22, 42, 53, 66, 77, 94, 112, 135, 155, 169, 189, 207]) (inl := []) (pf := gpeb) gpeb_ok 400 (by decide) h
set_option maxRecDepth 20000 in
theorem c203_77 {σ : gS} {K : gK} {l1 : Int32} (h : (0 ≤ (0 : Int32) ∧ (0 : Int32) < 330) ∧ (NX σ) ∧ (0 ≤ (1 : Int32) ∧ (1 : Int32) < 330) ∧ gE 203 94 [some (.ref 323), some (.int l1)] [] (gup (rTn σ (0 : Int32) (σ 325 0)) 325 1 (rNm σ (0 : Int32) (σ 325 0))) K) : gE 203 77 [some (.ref 323), some (.int l1)] [] σ K :=
  gw_run (cy := 203) (cuts := [2, 22, 42, 53, 66, 77, 94, 112, 135, 155, 169, 189, 207]) (inl := []) (pf := gpeb) gpeb_ok 400 (by decide) h
set_option maxRecDepth 20000 in
theorem c203_94 {σ : gS} {K : gK} {l1 : Int32} (h : ((¬ (σ 323 13) = 3 → (NX σ) ∧ gE 203 112 [some (.ref 323), some (.int l1)] [] (rTk σ (0 : Int32)) K) ∧ ((σ 323 13) = 3 → (NX σ) ∧ gE 203 112 [some (.ref 323), some (.int l1)] [] (rTk σ (1 : Int32)) K))) : gE 203 94 [some (.ref 323), some (.int l1)] [] σ K :=
  gw_run (cy := 203) (cuts := [2, 22, 42, 53, 66, 77, 94, 112, 135, 155, 169, 189, 207]) (inl := []) (pf := gpeb) gpeb_ok 400 (by decide) h
set_option maxRecDepth 20000 in
theorem c203_112 {σ : gS} {K : gK} {l1 : Int32} (h : ((¬ (σ 323 15) = 0 → gE 203 135 [some (.ref 323), some (.int l1)] [] σ K) ∧ ((σ 323 15) = 0 → (((bI (rIs σ (377669 : Int32))) = 0 → gE 203 135 [some (.ref 323), some (.int l1)] [] σ K) ∧ (¬ (bI (rIs σ (377669 : Int32))) = 0 → ((NX σ ∧ KV σ) ∧ σ 323 15 = 0 ∧ (0 ≤ σ 325 3 ∧ σ 325 3 ≤ 20)) ∧ gE 203 112 [some (.ref 323), some (.int l1)] [] (hRs σ) K))))) : gE 203 112 [some (.ref 323), some (.int l1)] [] σ K :=
  gw_run (cy := 203) (cuts := [2, 22, 42, 53, 66, 77, 94, 112, 135, 155, 169, 189, 207]) (inl := []) (pf := gpeb) gpeb_ok 400 (by decide) h
set_option maxRecDepth 20000 in
theorem c203_135 {σ : gS} {K : gK} {l1 : Int32} (h : ((¬ (σ 323 15) = 0 → gE 203 155 [some (.ref 323), some (.int l1)] [] σ K) ∧ ((σ 323 15) = 0 → (((σ 323 13) = 0 → gE 203 155 [some (.ref 323), some (.int l1)] [] σ K) ∧ (¬ (σ 323 13) = 0 → (NX σ) ∧ gE 203 155 [some (.ref 323), some (.int l1)] [] (rTk σ (0 : Int32)) K))))) : gE 203 135 [some (.ref 323), some (.int l1)] [] σ K :=
  gw_run (cy := 203) (cuts := [2, 22, 42, 53, 66, 77, 94, 112, 135, 155, 169, 189, 207]) (inl := []) (pf := gpeb) gpeb_ok 400 (by decide) h
set_option maxRecDepth 20000 in
theorem c203_155 {σ : gS} {K : gK} {l1 : Int32} (h : ((((gup σ 323 8 0) 323 15) = 0 → gE 203 169 [some (.ref 323), some (.int l1)] [] (gup σ 323 8 0) K) ∧ (¬ ((gup σ 323 8 0) 323 15) = 0 → K (some (.int (-1))) (gup σ 323 8 0)))) : gE 203 155 [some (.ref 323), some (.int l1)] [] σ K :=
  gw_run (cy := 203) (cuts := [2, 22, 42, 53, 66, 77, 94, 112, 135, 155, 169, 189, 207]) (inl := []) (pf := gpeb) gpeb_ok 400 (by decide) h
set_option maxRecDepth 20000 in
theorem c203_169 {σ : gS} {K : gK} {l1 : Int32} (h : ((0 ≤ (0 : Int32) ∧ (0 : Int32) ≤ iN (gln 325 - 330)) ∧ (0 ≤ (0 : Int32) ∧ (0 : Int32) ≤ iN (gln 324 - 330)) ∧ (325 = 324 → (0 : Int32).toNatClampNeg + 330 ≤ (0 : Int32).toNatClampNeg)) ∧ gE 203 189 [some (.ref 323), some (.int 0)] [] (gup (grow σ 324 (rla (σ 325) (σ 324) (0 : Int32).toNatClampNeg (0 : Int32).toNatClampNeg 330)) 323 6 0) K) : gE 203 169 [some (.ref 323), some (.int l1)] [] σ K :=
  gw_run (cy := 203) (cuts := [2, 22, 42, 53, 66, 77, 94, 112, 135, 155, 169, 189, 207]) (inl := []) (pf := gpeb) gpeb_ok 400 (by decide) h
set_option maxRecDepth 20000 in
theorem c203_189 {σ : gS} {K : gK} {l1 : Int32} (h : ((¬ l1 < 2 → gE 203 207 [some (.ref 323), some (.int l1)] [] σ K) ∧ (l1 < 2 → ((0 ≤ l1 ∧ l1 < 2) ∧ ((0 : Int32) = 0 ∨ (0 : Int32) = 1)) ∧ gE 203 189 [some (.ref 323), some (.int (l1 + 1))] [] (gup σ 329 l1.toNatClampNeg 0) K))) : gE 203 189 [some (.ref 323), some (.int l1)] [] σ K :=
  gw_run (cy := 203) (cuts := [2, 22, 42, 53, 66, 77, 94, 112, 135, 155, 169, 189, 207]) (inl := []) (pf := gpeb) gpeb_ok 400 (by decide) h
set_option maxRecDepth 20000 in
theorem c203_207 {σ : gS} {K : gK} {l1 : Int32} (h : (0 ≤ (3 : Int32) ∧ (3 : Int32) < 330) ∧ K (some (.int (σ 324 3))) σ) : gE 203 207 [some (.ref 323), some (.int l1)] [] σ K :=
  gw_run (cy := 203) (cuts := [2, 22, 42, 53, 66, 77, 94, 112, 135, 155, 169, 189, 207]) (inl := []) (pf := gpeb) gpeb_ok 400 (by decide) h
theorem rTk0_f {σ : gS} : ¬ rTk σ 0 323 15 = 0 := by
  rw [rTk_e]
  split
  · rw [if_pos rfl, gup_ne (by omega), gup_at]
    decide
  · assumption
theorem rTk_25 {σ : gS} {c : Int32} {j : Nat} : rTk σ c 325 j = σ 325 j := by rw [rTk_far (by decide)]
theorem qZ_ok {σ : gS} {n m : Nat} {x : Int32} (h : NX σ) (h3 : σ 325 3 = iN m) : NX (qZ σ n x) ∧ ((¬ qZ σ n x 323 15 = 0 ∧ qZ σ n x 325 3 = iN m) ∨ (KV (qZ σ n x) ∧ qZ σ n x 325 3 = iN (m + 1))) := by
  unfold qZ
  split
  · split
    · rename_i q
      refine ⟨NX_25 (rTk_NX h), Or.inr ⟨?_, ?_⟩⟩
      · have k : KV (rTk σ 1) := by
          rw [rTk_e, if_pos q, if_neg (by decide)]
          exact rNx_KV
        intro z
        rw [gup_ne (by omega)] at z ⊢
        exact k z
      · rw [gup_at, rTk_25, h3, iN_one]
    · rename_i q
      exact ⟨h, Or.inl ⟨q, h3⟩⟩
  · exact ⟨rTk_NX h, Or.inl ⟨rTk0_f, by rw [rTk_25, h3]⟩⟩
theorem hRs_ok {σ : gS} {n : Nat} (h : NX σ) (h3 : σ 325 3 = iN n) (hn : n ≤ 20) : NX (hRs σ) ∧ ((¬ hRs σ 323 15 = 0 ∧ hRs σ 325 3 = iN n) ∨ (n < 20 ∧ KV (hRs σ) ∧ hRs σ 325 3 = iN (n + 1))) := by
  rw [hRs_e]
  split
  · rename_i q
    have l : n < 20 := by
      rw [h3] at q
      exact (iN_lt (m := 20) (by omega) (by decide)).mp q
    obtain ⟨b, hb⟩ : ∃ b, rTk (rTk σ 1) (bI (q2c (rTk σ 1) (rTk σ 1 323 14))) = b := ⟨_, rfl⟩
    have b3 : b 325 3 = iN n := by rw [← hb, rTk_25, rTk_25, h3]
    have bN : NX b := by rw [← hb]; exact rTk_NX (rTk_NX h)
    unfold hRs1
    rw [hb]
    unfold hRs2
    split
    · obtain ⟨ρ, hρ⟩ : ∃ ρ, qMid (grow (rTk b 1) 325 (fNew (b 325) (rTk σ 1 323 14) (b 323 14))) (rTk σ 1 325 3).toNatClampNeg = ρ := ⟨_, rfl⟩
      have I := qMid_I (σ := grow (rTk b 1) 325 (fNew (b 325) (rTk σ 1 323 14) (b 323 14))) (n := (rTk σ 1 325 3).toNatClampNeg)
      rw [hρ] at I ⊢
      have r3 : ρ 325 3 = iN n := by
        rw [I.2.2 3 (by decide), grow_at, fNew_ne (by omega), b3]
      have rN : NX ρ := I.1 (NX_gr (rTk_NX bN))
      obtain ⟨z1, z2⟩ := qZ_ok (n := (rTk σ 1 325 3).toNatClampNeg) (x := rTk σ 1 323 14) rN r3
      exact ⟨z1, z2.elim Or.inl (fun z => Or.inr ⟨l, z.1, z.2⟩)⟩
    · exact ⟨rTk_NX bN, Or.inl ⟨rTk0_f, by rw [rTk_25, b3]⟩⟩
  · exact ⟨rTk_NX h, Or.inl ⟨rTk0_f, by rw [rTk_25, h3]⟩⟩
noncomputable def rLp : Nat → gS → gS
  | 0, σ => σ
  | d + 1, σ => if ¬ σ 323 15 = 0 ∨ ¬ rIs σ 377669 then σ else rLp d (hRs σ)
abbrev rHd (d : Nat) (σ : gS) : Prop := NX σ ∧ ((¬ σ 323 15 = 0 ∧ (0 ≤ σ 325 3 ∧ σ 325 3 ≤ 20)) ∨ (KV σ ∧ ∃ n, n ≤ 20 ∧ n + d = 21 ∧ σ 325 3 = iN n))
theorem rHd_st {d : Nat} {σ : gS} (h : rHd (d + 1) σ) (hf : σ 323 15 = 0) : ((NX σ ∧ KV σ) ∧ σ 323 15 = 0 ∧ (0 ≤ σ 325 3 ∧ σ 325 3 ≤ 20)) ∧ rHd d (hRs σ) := by
  obtain ⟨hN, h | ⟨hk, n, h1, h2, h3⟩⟩ := h
  · exact absurd hf h.1
  have b : 0 ≤ iN n ∧ iN n ≤ 20 := ⟨(iN_le (k := 0) (by decide) (by omega)).mpr (by omega), (iN_le (m := 20) (by omega) (by decide)).mpr h1⟩
  refine ⟨⟨⟨hN, hk⟩, hf, by rw [h3]; exact b⟩, ?_⟩
  obtain ⟨z1, z2⟩ := hRs_ok hN h3 h1
  refine ⟨z1, z2.elim (fun z => Or.inl ⟨z.1, by rw [z.2]; exact b⟩) (fun z => Or.inr ⟨z.2.1, n + 1, by omega, by omega, z.2.2⟩)⟩
theorem rHd_20 {d : Nat} {σ : gS} (h : rHd d σ) : NX σ ∧ (0 ≤ σ 325 3 ∧ σ 325 3 ≤ 20) := by
  obtain ⟨hN, h | ⟨hk, n, h1, h2, h3⟩⟩ := h
  · exact ⟨hN, h.2⟩
  · rw [h3]
    exact ⟨hN, (iN_le (k := 0) (by decide) (by omega)).mpr (by omega), (iN_le (m := 20) (by omega) (by decide)).mpr h1⟩
theorem rLp_ok : ∀ (d : Nat) (σ : gS), rHd d σ → NX (rLp d σ) ∧ (0 ≤ rLp d σ 325 3 ∧ rLp d σ 325 3 ≤ 20)
  | 0, σ, h => rHd_20 h
  | d + 1, σ, h => by
    unfold rLp
    split
    · exact rHd_20 h
    · rename_i q
      exact rLp_ok d _ (rHd_st h (Decidable.not_not.mp (fun z => q (Or.inl z)))).2
/-- the text must end there -/
noncomputable def hEd (τ : gS) : gS := if τ 323 15 = 0 ∧ ¬ τ 323 13 = 0 then rTk τ 0 else τ
noncomputable def hLo1 (ρ : gS) : gS := gup (gup (gup (grow (gup ρ 323 8 0) 324 (rla (ρ 325) (ρ 324) 0 0 330)) 323 6 0) 329 0 0) 329 1 0
noncomputable def hLo (ρ : gS) : gS := if ρ 323 15 = 0 then hLo1 ρ else gup ρ 323 8 0
noncomputable def aLo (ρ : gS) : Int32 := if ρ 323 15 = 0 then ρ 325 3 else -1
theorem ld_155 {ρ : gS} {K : gK} {x : Int32} (hK : K (some (.int (aLo ρ))) (hLo ρ)) : gE 203 155 [some (.ref 323), some (.int x)] [] ρ K := by
  unfold aLo hLo at hK
  have e : gup ρ 323 8 0 323 15 = ρ 323 15 := gup_ne (by omega)
  have e25 : gup ρ 323 8 0 325 = ρ 325 := funext fun j => gup_ne (by omega)
  have e24 : gup ρ 323 8 0 324 = ρ 324 := funext fun j => gup_ne (by omega)
  refine c203_155 ?_
  rw [e]
  refine ⟨fun q => c203_169 ⟨⟨⟨by decide, by decide +kernel⟩, ⟨by decide, by decide +kernel⟩, fun z => absurd z (by decide)⟩, ?_⟩, fun q => ?_⟩
  · rw [if_pos q, if_pos q] at hK
    have a0 : (0 : Int32).toNatClampNeg = 0 := rfl
    have a1 : ((0 : Int32) + 1).toNatClampNeg = 1 := by decide
    rw [e25, e24, a0]
    refine c203_189 ⟨fun z => absurd (by decide) z, fun _ => ⟨⟨by decide, Or.inl rfl⟩, c203_189 ⟨fun z => absurd (by decide) z, fun _ => ⟨⟨by decide, Or.inl rfl⟩, c203_189 ⟨fun _ => c203_207 ⟨by decide, ?_⟩, fun z => absurd z (by decide)⟩⟩⟩⟩⟩
    rw [a0, a1]
    unfold hLo1 at hK
    have v : gup (gup (gup (grow (gup ρ 323 8 0) 324 (rla (ρ 325) (ρ 324) 0 0 330)) 323 6 0) 329 0 0) 329 1 0 324 3 = ρ 325 3 := by
      rw [gup_ne (by omega), gup_ne (by omega), gup_ne (by omega), grow_at]
      unfold rla
      rw [if_pos (by omega)]
    rw [v]
    exact hK
  · rw [if_neg q, if_neg q] at hK
    exact hK
theorem ld_135 {τ : gS} {K : gK} {x : Int32} (h : NX τ) (hK : K (some (.int (aLo (hEd τ)))) (hLo (hEd τ))) : gE 203 135 [some (.ref 323), some (.int x)] [] τ K := by
  unfold hEd at hK
  refine c203_135 ⟨fun q => ld_155 ?_, fun q => ⟨fun q2 => ld_155 ?_, fun q2 => ⟨h, ld_155 ?_⟩⟩⟩
  · rw [if_neg (fun z => q z.1)] at hK; exact hK
  · rw [if_neg (fun z => z.2 q2)] at hK; exact hK
  · rw [if_pos ⟨q, q2⟩] at hK; exact hK
theorem ld_lp {K : gK} {x : Int32} : ∀ (d : Nat) (σ : gS), rHd d σ → K (some (.int (aLo (hEd (rLp d σ))))) (hLo (hEd (rLp d σ))) → gE 203 112 [some (.ref 323), some (.int x)] [] σ K
  | 0, σ, h, hK => by
    obtain ⟨hN, h | ⟨hk, n, h1, h2, h3⟩⟩ := h
    · exact c203_112 ⟨fun _ => ld_135 hN hK, fun q => absurd q h.1⟩
    · omega
  | d + 1, σ, h, hK => by
    unfold rLp at hK
    have out : (¬ σ 323 15 = 0 ∨ ¬ rIs σ 377669) → gE 203 135 [some (.ref 323), some (.int x)] [] σ K := fun q => by
      rw [if_pos q] at hK
      exact ld_135 h.1 hK
    refine c203_112 ⟨fun q => out (Or.inl q), fun q => ⟨fun q2 => out (Or.inr (bI_0.mp q2)), fun q2 => ?_⟩⟩
    have q2 := Decidable.not_not.mp (fun z => q2 (bI_0.mpr z))
    rw [if_neg (fun z => z.elim (fun z => z q) (fun z => z q2))] at hK
    obtain ⟨a, b⟩ := rHd_st h q
    exact ⟨a, ld_lp d _ b hK⟩
/-- the draft is emptied -/
noncomputable def dZk (σ : gS) (k : Nat) : gS := grow σ 325 (fun j => if j < k then 0 else σ 325 j)
theorem dZk_s (σ : gS) (k : Nat) : gup (dZk σ k) 325 k 0 = dZk σ (k + 1) := by
  funext q j
  unfold gup dZk grow
  grind
noncomputable def dS1 (σ : gS) : gS := rNx (gup (gup (gup (dZk σ 330) 323 11 0) 323 15 0) 323 9 (-2))
noncomputable def dS2 (σ : gS) : gS := rTk σ (bI (rIs σ 10984100))
noncomputable def dS3 (σ : gS) : gS := gup (rTn σ 2 10) 325 0 (rNm σ 2 10)
noncomputable def dS4 (σ : gS) : gS := rTk σ (bI (rIs σ 3379448))
noncomputable def dS5 (σ : gS) : gS := gup (rTn σ 0 (σ 325 0)) 325 1 (rNm σ 0 (σ 325 0))
noncomputable def dS6 (σ : gS) : gS := rTk σ (bI (σ 323 13 = 3))
noncomputable def dSet0 (σ : gS) : gS := dS6 (dS5 (dS4 (dS3 (dS2 (dS1 σ)))))
theorem dSet_x : ∃ f : gS → gS, ∀ σ, f σ = hEd (rLp 21 (dSet0 σ)) := ⟨fun σ => hEd (rLp 21 (dSet0 σ)), fun _ => rfl⟩
noncomputable def dSet : gS → gS := Classical.choose dSet_x
theorem dSet_e : ∀ σ, dSet σ = hEd (rLp 21 (dSet0 σ)) := Classical.choose_spec dSet_x
theorem hLoad_x : ∃ f : gS → gS, ∀ σ, f σ = hLo (dSet σ) := ⟨fun σ => hLo (dSet σ), fun _ => rfl⟩
noncomputable def hLoad : gS → gS := Classical.choose hLoad_x
theorem hLoad_e : ∀ σ, hLoad σ = hLo (dSet σ) := Classical.choose_spec hLoad_x
theorem dS1_NX0 {σ : gS} (h : RT σ) : NX (gup (gup (gup (dZk σ 330) 323 11 0) 323 15 0) 323 9 (-2)) := by
  have e8 : gup (gup (gup (dZk σ 330) 323 11 0) 323 15 0) 323 9 (-2) 323 8 = σ 323 8 := by
    rw [gup_ne (by omega), gup_ne (by omega), gup_ne (by omega)]
    unfold dZk
    rw [grow_ne (by decide)]
  have e11 : gup (gup (gup (dZk σ 330) 323 11 0) 323 15 0) 323 9 (-2) 323 11 = 0 := by
    rw [gup_ne (by omega), gup_ne (by omega), gup_at]
  refine ⟨?_, ?_⟩
  · show 0 ≤ gup (gup (gup (dZk σ 330) 323 11 0) 323 15 0) 323 9 (-2) 323 8 ∧ gup (gup (gup (dZk σ 330) 323 11 0) 323 15 0) 323 9 (-2) 323 8 ≤ 1000
    rw [e8]
    exact h
  · rw [e8, e11]
    exact ⟨by decide, h.1⟩
theorem dS1_NX {σ : gS} (h : RT σ) : NX (dS1 σ) := rNx_NX (dS1_NX0 h)
theorem dS_3 {σ : gS} : dSet0 σ 325 3 = 0 := by
  unfold dSet0 dS6 dS5 dS4 dS3 dS2 dS1 rTn
  rw [rTk_25, gup_ne (by omega), rTk_25, rTk_25, gup_ne (by omega), rTk_25, rTk_25, rNx_far (by decide), gup_ne (by omega), gup_ne (by omega), gup_ne (by omega)]
  unfold dZk
  rw [grow_at, if_pos (by decide)]
theorem dSet0_NX {σ : gS} (h : RT σ) : NX (dSet0 σ) := rTk_NX (NX_25 (rTn_NX (rTk_NX (NX_25 (rTn_NX (rTk_NX (dS1_NX h)))))))
theorem dS1_KV {σ : gS} : KV (dS1 σ) := rNx_KV
theorem KV_25 {σ : gS} {j : Nat} {x : Int32} (h : KV σ) : KV (gup σ 325 j x) := by
  intro z
  rw [gup_ne (by omega)] at z ⊢
  exact h z
theorem dSet0_KV {σ : gS} : KV (dSet0 σ) := rTk_KV (KV_25 (rTk_KV (rTk_KV (KV_25 (rTk_KV (rTk_KV dS1_KV))))))
theorem dSet0_hd {σ : gS} (h : RT σ) : rHd 21 (dSet0 σ) := ⟨dSet0_NX h, Or.inr ⟨dSet0_KV, 0, by decide, by decide, dS_3⟩⟩
theorem s203 {σ : gS} {K : gK} (hc : RT σ) (hK : K (some (.int (aLo (dSet σ)))) (hLoad σ)) : gE 203 0 [some (.ref 323), none] [] σ K := by
  rw [hLoad_e, dSet_e] at hK
  have k1 := dS1_NX hc
  have k2 : NX (dS2 (dS1 σ)) := rTk_NX k1
  have k3 : NX (dS3 (dS2 (dS1 σ))) := NX_25 (rTn_NX k2)
  have k4 : NX (dS4 (dS3 (dS2 (dS1 σ)))) := rTk_NX k3
  have k5 : NX (dS5 (dS4 (dS3 (dS2 (dS1 σ))))) := NX_25 (rTn_NX k4)
  have six : ∀ x, gE 203 112 [some (.ref 323), some (.int x)] [] (dS6 (dS5 (dS4 (dS3 (dS2 (dS1 σ)))))) K := fun x => ld_lp 21 _ (dSet0_hd hc) hK
  have tail : ∀ x, gE 203 22 [some (.ref 323), some (.int x)] [] (dZk σ 330) K := by
    intro x
    refine c203_22 ⟨Or.inl rfl, dS1_NX0 hc, c203_42 ⟨k1, c203_53 ⟨k2, by decide, c203_66 ⟨k3, c203_77 ⟨by decide, k4, by decide, c203_94 ⟨fun q => ⟨k5, ?_⟩, fun q => ⟨k5, ?_⟩⟩⟩⟩⟩⟩⟩
    · have e : dS6 (dS5 (dS4 (dS3 (dS2 (dS1 σ))))) = rTk (dS5 (dS4 (dS3 (dS2 (dS1 σ))))) 0 := by
        exact congrArg (rTk _) (bI_n q)
      have := six x
      rw [e] at this
      exact this
    · have e : dS6 (dS5 (dS4 (dS3 (dS2 (dS1 σ))))) = rTk (dS5 (dS4 (dS3 (dS2 (dS1 σ))))) 1 := by
        exact congrArg (rTk _) (bI_y q)
      have := six x
      rw [e] at this
      exact this
  have key : ∀ d k, k + d = 330 → gE 203 2 [some (.ref 323), some (.int (iN k))] [] (dZk σ k) K := by
    intro d
    induction d with
    | zero =>
      intro k hk
      have : k = 330 := by omega
      subst this
      exact c203_2 ⟨fun _ => tail _, fun q => absurd q (by decide)⟩
    | succ d ih =>
      intro k hk
      refine c203_2 ⟨fun q => absurd ((iN_lt (m := 330) (by omega) (by decide)).mpr (by omega)) q, fun _ => ⟨i330 (by omega), ?_⟩⟩
      rw [iN_nat (by omega), dZk_s, iN_one]
      exact ih (k + 1) (by omega)
  have e0 : dZk σ 0 = σ := by
    funext q j
    unfold dZk grow
    split
    · rename_i e
      show (if j < 0 then 0 else σ 325 j) = σ q j
      rw [if_neg (by omega), e]
    · rfl
  have := key 330 0 (by omega)
  rw [e0] at this
  exact w203 this
noncomputable def f203 : gD := fun Lv σ => match Lv with
  | [some (.ref q0), none] => cond (Nat.beq q0 323) (some (some (RT σ), some (.int (aLo (dSet σ))), hLoad σ)) none
  | _ => none
theorem ok203 : gFok 203 f203 := by
  intro Lv σ q h hc K hK
  unfold f203 at h
  split at h
  · rename_i q0
    obtain ⟨hb, h⟩ := c_no h
    have hb0 := hb
    have e0 := b_eq hb0
    subst e0
    cases h
    exact s203 (hc _ rfl) hK
  · cases h
noncomputable def gpec_l : List (Nat × gD) := (203, f203) :: gpeb_l
noncomputable def gpec : gP := gpl0 gpec_l
theorem gpec_ok : gPok gpec := gpl0_cons ok203 (gpeb_ok)
