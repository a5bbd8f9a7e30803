-- text 71
/-! RELATION: set, settle -/
def clE (σ : gS) (t w v : Int32) : gS := if gSet (cR σ 6) t w v then cAdd (gup (cRem σ) (6 + 2 + t.toNatClampNeg) (fof w + 1) v) 6 (10 * t + w) (σ (6 + 2 + t.toNatClampNeg) (fof w + 1)) else σ
theorem agr_inR {R S : gW} (h : agr R S) (w v : Int32) : inR R w v ↔ inR S w v := by unfold inR; rw [h.1 0 (by decide)]
theorem agr_set {R S : gW} (h3 : 0 ≤ R 3 ∧ R 3 ≤ 20) (h : agr R S) (t w v : Int32) : (gSet R t w v ↔ gSet S t w v) ∧ aSet R t w v = aSet S t w v := by
  have eT := agr_isT h t
  have eI := agr_inR h w v
  by_cases ht : isT R t ∧ inR R w v
  · have na := (isT_n h3 ht.1).2
    have fl := fof_le ht.2
    have e1 := h.2 _ na (fof w) (by omega)
    have e2 := h.2 _ na 0 (by decide)
    have e3 := h.1 1 (by decide)
    refine ⟨by unfold gSet; rw [e1, e2, e3, eT, eI], ?_⟩
    unfold aSet
    rw [e1, e2, e3, if_pos ht, if_pos (show isT S t ∧ inR S w v from ⟨eT.mp ht.1, eI.mp ht.2⟩)]
  · have ht2 : ¬ (isT S t ∧ inR S w v) := fun q => ht ⟨eT.mpr q.1, eI.mpr q.2⟩
    refine ⟨⟨fun q => absurd q.1.1 ht, fun q => absurd q.1.1 ht2⟩, ?_⟩
    unfold aSet
    rw [if_neg ht, if_neg ht2]
theorem GR_set {B : Nat} {σ : gS} {t w v : Int32} (h : GR B σ) : clE σ t w v 324 = σ 324 ∧ RS (clE σ t w v) ∧ aSet (cR σ 6) t w v = aSet (σ 324) t w v ∧ GR B (hOp (clE σ t w v) (gSet (σ 324) t w v) (nSet (σ 324) t w v)) := by
  have h' := h
  obtain ⟨g1, g2, g3, g4, g5, g6, g7, g8, g9⟩ := h'
  obtain ⟨b3, bn, e7⟩ := SV_3 g1
  have h7 : 0 ≤ σ 6 7 ∧ σ 6 7 ≤ 20 := by rw [e7]; exact b3
  obtain ⟨eG, eA⟩ := agr_set g1.2.1.1 g1.1 t w v
  unfold clE hOp
  by_cases hg : gSet (σ 324) t w v
  · have hg' := eG.mpr hg
    rw [if_pos hg', if_pos hg]
    obtain ⟨et, lt⟩ := isT_n b3 hg.1.1.1
    have hw := hg.1.1.2
    have fl := fof_le hw
    obtain ⟨m, hm⟩ : ∃ m, t.toNatClampNeg = m := ⟨_, rfl⟩
    rw [hm] at et lt
    rw [hm]
    subst et
    have far : ∀ q, q < 6 ∨ 32 ≤ q → cAdd (gup (cRem σ) (6 + 2 + m) (fof w + 1) v) 6 (10 * iN m + w) (σ (6 + 2 + m) (fof w + 1)) q = cRem σ q := fun q hq => by
      rw [cAdd_far (by omega) (by omega)]
      funext j
      rw [gup_ne (by omega)]
    have hi : ∀ q, 323 ≤ q → cAdd (gup (cRem σ) (6 + 2 + m) (fof w + 1) v) 6 (10 * iN m + w) (σ (6 + 2 + m) (fof w + 1)) q = σ q := fun q hq => by rw [far q (by omega), cRem_far (Or.inr hq) h7]
    have sN := SV_set (SV_rem g1) lt hw
    rw [cRem_far (q := 6 + 2 + m) (Or.inl (by omega)) h7] at sN
    have gN := GD_set g2 b3 g7.1.2 lt hw
    have zN : zR (nSet (σ 324) (iN m) w v) := by
      unfold nSet
      rw [iN_nat (by omega)]
      refine zR_te (zR_rup g8.1 (by omega)) ?_
      rw [rup_ne (by omega)]
      exact g7.1.2
    refine ⟨hi 324 (by decide), ?_, eA, ?_⟩
    · unfold RS
      rw [hi 324 (by decide), hi 323 (by decide)]
      exact g7
    · exact GR_call h (Nat.le_refl _) far sN gN zN
  · have hg' : ¬ gSet (cR σ 6) t w v := fun q => hg (eG.mp q)
    rw [if_neg hg', if_neg hg]
    exact ⟨rfl, g7, eA, h⟩
/-- the drafts are free -/
theorem GR_scr {B : Nat} {σ τ : gS} (h : GR B σ) (hq : ∀ q, (q < 32 ∨ 58 ≤ q) → ¬ q = 326 → τ q = σ q) (hz : zR (τ 326)) : GR B τ := by
  obtain ⟨g1, g2, g3, g4, g5, g6, g7, g8, g9⟩ := h
  have e := fun q (h1 : q < 32 ∨ 58 ≤ q) (h2 : ¬ q = 326) => hq q h1 h2
  have e324 := e 324 (by decide) (by decide)
  have e323 := e 323 (by decide) (by decide)
  refine ⟨?_, by rw [e324]; exact g2, ?_, SL_same (Nat.le_refl _) g4 (fun q q1 q2 => e q (by omega) (by omega)) (e 328 (by decide) (by decide)) (e 329 (by decide) (by decide)), ?_, ?_, ?_, ?_, ?_⟩
  · rw [e324]
    exact SV_blk g1 (fun q q1 q2 => e q (by omega) (by omega))
  · obtain ⟨⟨p1, p2, p3⟩, p4, p5⟩ := g3
    have e113 := e 113 (by decide) (by decide)
    have e327 := e 327 (by decide) (by decide)
    have eP : ∀ u, cPl τ u = cPl σ u := fun u => by unfold cPl; rw [e113]
    have hm : ∀ u, ((σ 113 1).toNatClampNeg + u) % 8 < 8 := fun u => Nat.mod_lt _ (by decide)
    refine ⟨⟨by unfold bPa; rw [e113]; exact p1, by rw [e113, e323]; exact p2, fun u hu => ?_⟩, fun u hu => ?_, fun j hj => ?_⟩
    · rw [e113] at hu
      rw [eP, e327]
      refine SV_blk (p3 u hu) (fun q q1 q2 => ?_)
      have := hm u
      unfold cPl at q1 q2
      exact e q (by omega) (by omega)
    · rw [e113] at hu
      rw [e327]
      exact p4 u hu
    · rw [e _ (by omega) (by omega)]
      exact p5 j hj
  · unfold TP
    rw [e 2 (by decide) (by decide), e 3 (by decide) (by decide), e323, e 330 (by decide) (by decide)]
    exact g5
  · rw [e 0 (by decide) (by decide), e323]
    exact g6
  · unfold RS
    rw [e324, e323]
    exact g7
  · unfold RZ
    rw [e324, e 325 (by decide) (by decide)]
    exact ⟨g8.1, g8.2.1, hz⟩
  · unfold RT
    rw [e323]
    exact g9
-- text 72
/-! RELATION: settle -/
def clT (σ : gS) : gS := if (cSt 99 (cCo σ 32 6)).1 = 0 then (cSt 99 (cCo σ 32 6)).2 else cStl (cSt 99 (cCo σ 32 6))
/-- what settle needs of the class -/
theorem GR_dr {σ : gS} {R : gW} (h : SV σ 6 R) : TC (cCo σ 32 6) 32 ∧ bLg (cCo σ 32 6) 56 := by
  have s := cCo_ok (p := 32) (q := 6) (by omega) h
  exact ⟨s.2.1, s.2.2.1.1⟩
theorem GR_settle {B : Nat} {σ : gS} (h : GR B σ) : clT σ 324 = σ 324 ∧ RS (clT σ) ∧ RZ (clT σ) ∧ (if (cSt 99 (cCo σ 32 6)).1 = 0 then -2 else iN (cSt 99 (cCo σ 32 6)).1) = aStl (σ 324) ∧ GR B (hOp (grow (clT σ) 326 (fSt 99 (σ 324)).2) (gStl (σ 324)) (nStl (σ 324))) := by
  have h' := h
  obtain ⟨g1, g2, g3, g4, g5, g6, g7, g8, g9⟩ := h'
  obtain ⟨b3, bn, e7⟩ := SV_3 g1
  have h7 : 0 ≤ σ 6 7 ∧ σ 6 7 ≤ 20 := by rw [e7]; exact b3
  have n7 := (c20 h7).2
  obtain ⟨k1, sN⟩ := SV_stl g1 g2.1 g2.2.1
  obtain ⟨t1, l1, f1⟩ := cSt_tc (d := 99) (GR_dr g1).1
  have zS := fSt_z (d := 99) b3 g8.1
  obtain ⟨x3, x9⟩ := (GD_St (d := 99) g2 b3).2
  unfold clT
  obtain ⟨x, hx⟩ : ∃ x, cSt 99 (cCo σ 32 6) = x := ⟨_, rfl⟩
  rw [hx] at k1 sN t1 l1 f1 ⊢
  have fs : ∀ q, q < 32 ∨ 58 ≤ q → x.2 q = σ q := fun q hq => by
    rw [f1 q (by omega)]
    funext j
    exact cCo_far (by omega) n7
  have eA : (if x.1 = 0 then -2 else iN x.1) = aStl (σ 324) := by unfold aStl; rw [← k1]
  unfold hOp
  by_cases hz : x.1 = 0
  · have hg : ¬ gStl (σ 324) := fun q => q (by rw [← k1]; exact hz)
    rw [if_pos hz, if_neg hg]
    refine ⟨fs 324 (by decide), ?_, ?_, ?_, ?_⟩
    · unfold RS
      rw [fs 324 (by decide), fs 323 (by decide)]
      exact g7
    · unfold RZ
      rw [fs 324 (by decide), fs 325 (by decide), fs 326 (by decide)]
      exact g8
    · rw [if_pos hz] at eA; rw [if_pos hz]; exact eA
    · refine GR_scr h (fun q q1 q2 => ?_) (by rw [grow_at]; exact zS)
      rw [grow_ne q2]
      exact fs q q1
  · have hg : gStl (σ 324) := fun q => hz (by rw [k1]; exact q)
    rw [if_neg hz, if_pos hg]
    have x7 : 0 ≤ x.2 6 7 ∧ x.2 6 7 ≤ 20 := by rw [fs 6 (by decide)]; exact h7
    have x32 : 0 ≤ x.2 32 7 ∧ x.2 32 7 ≤ 20 := by have := t1.1; rw [cR_3] at this; exact this
    have n32 : (cRem x.2 32 7).toNatClampNeg ≤ 20 := by rw [cRem_far (Or.inl (by decide)) x7]; exact (c20 x32).2
    have far : ∀ q, q < 6 ∨ 32 ≤ q → cStl x q = cRem x.2 q := fun q hq => by
      unfold cStl
      rw [cAdd_far (by omega) (by omega)]
      funext j
      rw [gup_ne (by omega), cCo_far (by omega) n32]
    have hi : ∀ q, 323 ≤ q → cStl x q = σ q := fun q hq => by rw [far q (by omega), cRem_far (Or.inr hq) x7, fs q (by omega)]
    have gX : GR B x.2 := GR_scr h (fun q q1 _ => fs q q1) (by rw [fs 326 (by decide)]; exact g8.2.2)
    have gN := GD_stl g2 b3 g7.1.2
    have zN : zR (nStl (σ 324)) := by
      unfold nStl radd
      refine zR_te (zR_rup zS (by decide)) ?_
      rw [rup_ne (by omega), x9]
      exact g7.1.2
    have gC := GR_call gX (Nat.le_refl _) far sN gN zN
    refine ⟨hi 324 (by decide), ?_, ?_, ?_, ?_⟩
    · unfold RS
      rw [hi 324 (by decide), hi 323 (by decide)]
      exact g7
    · unfold RZ
      rw [hi 324 (by decide), hi 325 (by decide), hi 326 (by decide)]
      exact g8
    · rw [if_neg hz] at eA; rw [if_neg hz]; exact eA
    · refine GR_scr gC (fun q q1 q2 => ?_) ?_
      · unfold hKe
        by_cases a : q = 324
        · subst a; rw [grow_at, grow_at]
        · rw [grow_ne a, grow_ne a]
          by_cases b : q = 323
          · subst b
            rw [grow_at, grow_at, grow_ne (show ¬ 323 = 326 by decide)]
          · rw [grow_ne b, grow_ne b]
            by_cases c : q = 327
            · subst c
              rw [grow_at, grow_at, grow_ne (show ¬ 324 = 326 by decide), grow_ne (show ¬ 327 = 326 by decide), grow_ne (show ¬ 323 = 326 by decide)]
            · rw [grow_ne c, grow_ne c, grow_ne q2]
      · rw [grow_ne (by decide), hKe_ne (by decide) (by decide), grow_at]
        exact zS
