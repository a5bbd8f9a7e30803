-- text 113
/-! THE LAW: pairs of calls: settling tried, plan and setup text -/
theorem GR_wf {B : Nat} {σ τ : gS} (h : GR B σ) (hw : Wf σ τ) : GR B τ := by
  obtain ⟨g1, g2, g3, g4, g5, g6, g7, g8, g9⟩ := h
  obtain ⟨hq, hj⟩ := hw
  have e := fun q (h1 : ¬ q = 323) (h2 : ¬ q = 331) => hq q h1 h2
  have e324 := e 324 (by decide) (by decide)
  have j6 := hj 6 (by decide)
  have j8 := hj 8 (by decide)
  have j9 := hj 9 (by decide)
  refine ⟨?_, by rw [e324]; exact g2, ?_, SL_same (Nat.le_refl _) g4 (fun q q1 q2 => e q (by omega) (by omega)) (e 328 (by decide) (by decide)) (e 329 (by decide) (by decide)), ?_, ?_, ?_, ?_, ?_⟩
  · rw [e324]
    exact SV_blk g1 (fun q q1 q2 => e q (by omega) (by omega))
  · obtain ⟨⟨p1, p2, p3⟩, p4, p5⟩ := g3
    have e113 := e 113 (by decide) (by decide)
    have e327 := e 327 (by decide) (by decide)
    have eP : ∀ u, cPl τ u = cPl σ u := fun u => by unfold cPl; rw [e113]
    have hm : ∀ u, ((σ 113 1).toNatClampNeg + u) % 8 < 8 := fun u => Nat.mod_lt _ (by decide)
    refine ⟨⟨by unfold bPa; rw [e113]; exact p1, by rw [e113, j6]; exact p2, fun u hu => ?_⟩, fun u hu => ?_, fun j hj => ?_⟩
    · rw [e113] at hu
      rw [eP, e327]
      refine SV_blk (p3 u hu) (fun q q1 q2 => ?_)
      have := hm u
      unfold cPl at q1 q2
      exact e q (by omega) (by omega)
    · rw [e113] at hu
      rw [e327]
      exact p4 u hu
    · rw [e _ (by omega) (by omega)]
      exact p5 j hj
  · unfold TP
    rw [e 2 (by decide) (by decide), e 3 (by decide) (by decide), j8, e 330 (by decide) (by decide)]
    exact g5
  · rw [e 0 (by decide) (by decide), j9]
    exact g6
  · unfold RS
    rw [e324, j6]
    exact g7
  · unfold RZ
    rw [e324, e 325 (by decide) (by decide), e 326 (by decide) (by decide)]
    exact g8
  · show 0 ≤ τ 323 8 ∧ τ 323 8 ≤ 1000
    rw [j8]
    exact g9
theorem GI_wf {n : Nat} {σ τ : gS} (h : GI n σ) (hw : Wf σ τ) : GI n τ ∧ Sc σ τ := by
  obtain ⟨B, b1, b2, g, tb⟩ := h
  exact ⟨⟨B, b1, b2, GR_wf g hw, TB_of tb (hw.2 8 (by decide)) (hw.1 330 (by decide) (by decide))⟩, hw.1 _ (by decide) (by decide), hw.1 _ (by decide) (by decide)⟩
theorem GI_uw {n : Nat} {σ τ : gS} (h : GI n σ) (hw : Uw σ τ) : GI n τ ∧ Sc σ τ := by
  obtain ⟨B, b1, b2, g, tb⟩ := h
  refine ⟨⟨B, b1, b2, GR_fre g (fun q q1 _ => hw q (by omega)) (by rw [hw 326 (by decide)]; exact g.2.2.2.2.2.2.2.1.2.2), TB_of tb (by rw [hw 323 (by decide)]) (hw 330 (by decide))⟩, hw _ (by decide), hw _ (by decide)⟩
theorem clX_hi {σ : gS} {w : Int32} {q : Nat} (hc : SC σ) (ht : TC (cCo σ 32 6) 32) (hq : q < 32 ∨ 58 ≤ q) : clX σ w q = σ q := by
  have n7 := (c20 (SC_7 hc)).2
  obtain ⟨t1, l1, f1⟩ := cSt_tc (d := 99) ht
  rw [clX_e]
  split
  · rw [f1 q (by omega)]
    funext j
    exact cCo_far (by omega) n7
  · rfl
theorem hSx_ne {σ : gS} {w : Int32} {q : Nat} (hq : ¬ q = 326) : hSx σ w q = σ q := by
  rw [hSx_e]
  split
  · exact grow_ne hq
  · rfl
theorem pq_ifSettled {n : Nat} {σ : gS} {Q : Int32 → gS → Prop} {w : Int32} (h : GI n σ) (k : Pa n σ 248 [some (.ref 323), some (.int w), none] Q) : gXi 138 [some (.ref 0), some (.int w), none] σ Q := by
  have h' := h
  obtain ⟨B, b1, b2, g, tb⟩ := h'
  obtain ⟨hc, hF⟩ := GR_SC g
  obtain ⟨rs, rt, rz, h0, rF, rT, nG⟩ := GR_rf g
  have ht := (GR_dr g.1).1
  have hi : ∀ q, q < 32 ∨ 58 ≤ q → clX σ w q = σ q := fun q hq => clX_hi hc ht hq
  have g1 : GR B (clX σ w) := GR_scr g (fun q q1 _ => hi q q1) (by rw [hi 326 (by decide)]; exact rz.2.2)
  obtain ⟨rs1, rt1, rz1, -⟩ := GR_rf g1
  have b3 := g1.2.2.2.2.2.2.1.1.1
  refine s138 ⟨hc, ht⟩ ⟨_, rfl, k _ (clX σ w) ⟨hi _ (by decide), hi _ (by decide)⟩ (fun Q2 h2 => s248 ⟨rs1, rz1⟩ ⟨_, rfl, h2 _ _ ⟨B, b1, by omega, ?_, ?_⟩ ⟨?_, ?_⟩⟩)⟩
  · refine GR_scr g1 (fun q q1 q2 => hSx_ne q2) ?_
    rw [hSx_e]
    split
    · rw [grow_at]
      exact fSt_z b3 rz1.1
    · exact rz1.2.2
  · exact TB_of tb (by rw [hSx_ne (by decide), hi 323 (by decide)]) (by rw [hSx_ne (by decide), hi 330 (by decide)])
  · rw [hSx_ne (by decide), hi _ (by decide)]
  · rw [hSx_ne (by decide), hi _ (by decide)]
theorem pq_planLength {n : Nat} {σ : gS} {Q : Int32 → gS → Prop} (h : GI n σ) (k : Pa n σ 257 [some (.ref 323)] Q) : gXi 143 [some (.ref 0)] σ Q := by
  have h' := h
  obtain ⟨B, b1, b2, g, tb⟩ := h'
  obtain ⟨hc, hF⟩ := GR_SC g
  obtain ⟨rs, rt, rz, h0, rF, rT, nG⟩ := GR_rf g
  refine s143 ⟨_, rfl, k _ σ (Sc_r σ) (fun Q2 h2 => x257 rs.1.1 h0 nG (fun τ hw => ?_))⟩
  obtain ⟨i1, i2⟩ := GI_wf h hw
  exact h2 _ τ (GI_up i1) i2
theorem pq_planByte {n : Nat} {σ : gS} {Q : Int32 → gS → Prop} {i : Int32} (h : GI n σ) (k : Pa n σ 258 [some (.ref 323), some (.int i)] Q) : gXi 144 [some (.ref 0), some (.int i)] σ Q := by
  have h' := h
  obtain ⟨B, b1, b2, g, tb⟩ := h'
  obtain ⟨hc, hF⟩ := GR_SC g
  obtain ⟨rs, rt, rz, h0, rF, rT, nG⟩ := GR_rf g
  refine s144 hc ⟨_, rfl, k _ σ (Sc_r σ) (fun Q2 h2 => x258 rs.1.1 h0 nG (fun τ hw => ?_))⟩
  obtain ⟨i1, i2⟩ := GI_wf h hw
  exact h2 _ τ (GI_up i1) i2
theorem pq_setupLength {n : Nat} {σ : gS} {Q : Int32 → gS → Prop} (h : GI n σ) (k : Pa n σ 267 [some (.ref 323)] Q) : gXi 145 [some (.ref 0)] σ Q := by
  have h' := h
  obtain ⟨B, b1, b2, g, tb⟩ := h'
  obtain ⟨hc, hF⟩ := GR_SC g
  obtain ⟨rs, rt, rz, h0, rF, rT, nG⟩ := GR_rf g
  refine x145 hc.1.1 (fun x1 s1 hu => ?_)
  obtain ⟨j1, j2⟩ := GI_uw h hu
  have j1' := j1
  obtain ⟨B', b1', b2', g', tb'⟩ := j1'
  obtain ⟨rs', rt', rz', h0', rF', rT', nG'⟩ := GR_rf g'
  refine k x1 s1 j2 (fun Q2 h2 => x267 rs'.1.1 nG' (fun x2 τ hw => ?_))
  obtain ⟨i1, i2⟩ := GI_wf j1 hw
  exact h2 _ τ (GI_up i1) (Sc_t j2 i2)
theorem pq_setupByte {n : Nat} {σ : gS} {Q : Int32 → gS → Prop} {i : Int32} (h : GI n σ) (k : Pa n σ 268 [some (.ref 323), some (.int i)] Q) : gXi 146 [some (.ref 0), some (.int i)] σ Q := by
  have h' := h
  obtain ⟨B, b1, b2, g, tb⟩ := h'
  obtain ⟨hc, hF⟩ := GR_SC g
  obtain ⟨rs, rt, rz, h0, rF, rT, nG⟩ := GR_rf g
  refine x146 hc.1.1 (fun x1 s1 hu => ?_)
  obtain ⟨j1, j2⟩ := GI_uw h hu
  have j1' := j1
  obtain ⟨B', b1', b2', g', tb'⟩ := j1'
  obtain ⟨rs', rt', rz', h0', rF', rT', nG'⟩ := GR_rf g'
  refine k x1 s1 j2 (fun Q2 h2 => x268 rs'.1.1 nG' (fun x2 τ hw => ?_))
  obtain ⟨i1, i2⟩ := GI_wf j1 hw
  exact h2 _ τ (GI_up i1) (Sc_t j2 i2)
