/-! THE LAW: pairs of calls: settling tried, plan and setup text -/
theorem GR_wf {B : Nat} {σ τ : gS} (h : GR B σ) (hw : Wf σ τ) : GR B τ := by
  obtain ⟨g1, g2, g3, g4, g5, g6, g7, g8, g9⟩ := h
  obtain ⟨hq, hj⟩ := hw
  have e := fun q (h1 : ¬ q = 323) (h2 : ¬ q = 331) => hq q h1 h2
  have e324 := e 324 (by decide) (by decide)
  have j6 := hj 6 (by decide)
  have j8 := hj 8 (by decide)
  have j9 := hj 9 (by decide)
  refine ⟨?_, by rw [e324]; exact g2, ?_, SL_same (Nat.le_refl _) g4 (fun q q1 q2 => e q (by omega) (by omega)) (e 328 (by decide) (by decide)) (e 329 (by decide) (by decide)), ?_, ?_, ?_, ?_, ?_⟩
  · rw [e324]
    exact SV_blk g1 (fun q q1 q2 => e q (by omega) (by omega))
  · obtain ⟨⟨p1, p2, p3⟩, p4, p5⟩ := g3
    have e113 := e 113 (by decide) (by decide)
    have e327 := e 327 (by decide) (by decide)
    have eP : ∀ u, cPl τ u = cPl σ u := fun u => by unfold cPl; rw [e113]
    have hm : ∀ u, ((σ 113 1).toNatClampNeg + u) % 8 < 8 := fun u => Nat.mod_lt _ (by decide)
    refine ⟨⟨by unfold bPa; rw [e113]; exact p1, by rw [e113, j6]; exact p2, fun u hu => ?_⟩, fun u hu => ?_, fun j hj => ?_⟩
    · rw [e113] at hu
      rw [eP, e327]
      refine SV_blk (p3 u hu) (fun q q1 q2 => ?_)
      have := hm u
      unfold cPl at q1 q2
      exact e q (by omega) (by omega)
    · rw [e113] at hu
      rw [e327]
      exact p4 u hu
    · rw [e _ (by omega) (by omega)]
      exact p5 j hj
  · unfold TP
    rw [e 2 (by decide) (by decide), e 3 (by decide) (by decide), j8, e 330 (by decide) (by decide)]
    exact g5
  · rw [e 0 (by decide) (by decide), j9]
    exact g6
  · unfold RS
    rw [e324, j6]
    exact g7
  · unfold RZ
    rw [e324, e 325 (by decide) (by decide), e 326 (by decide) (by decide)]
    exact g8
  · show 0 ≤ τ 323 8 ∧ τ 323 8 ≤ 1000
    rw [j8]
    exact g9
theorem GI_wf {n : Nat} {σ τ : gS} (h : GI n σ) (hw : Wf σ τ) : GI n τ ∧ Sc σ τ := by
  obtain ⟨B, b1, b2, g, tb⟩ := h
  exact ⟨⟨B, b1, b2, GR_wf g hw, TB_of tb (hw.2 8 (by decide)) (hw.1 330 (by decide) (by decide))⟩, hw.1 _ (by decide) (by decide), hw.1 _ (by decide) (by decide)⟩
theorem GI_uw {n : Nat} {σ τ : gS} (h : GI n σ) (hw : Uw σ τ) : GI n τ ∧ Sc σ τ := by
  obtain ⟨B, b1, b2, g, tb⟩ := h
  refine ⟨⟨B, b1, b2, GR_fre g (fun q q1 _ => hw q (by omega)) (by rw [hw 326 (by decide)]; exact g.2.2.2.2.2.2.2.1.2.2), TB_of tb (by rw [hw 323 (by decide)]) (hw 330 (by decide))⟩, hw _ (by decide), hw _ (by decide)⟩
theorem clX_hi {σ : gS} {w : Int32} {q : Nat} (hc : SC σ) (ht : TC (cCo σ 32 6) 32) (hq : q < 32 ∨ 58 ≤ q) : clX σ w q = σ q := by
  have n7 := (c20 (SC_7 hc)).2
  obtain ⟨t1, l1, f1⟩ := cSt_tc (d := 99) ht
  rw [clX_e]
  split
  · rw [f1 q (by omega)]
    funext j
    exact cCo_far (by omega) n7
  · rfl
theorem hSx_ne {σ : gS} {w : Int32} {q : Nat} (hq : ¬ q = 326) : hSx σ w q = σ q := by
  rw [hSx_e]
  split
  · exact grow_ne hq
  · rfl
