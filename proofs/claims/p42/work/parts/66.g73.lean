/-! RELATION: come -/
/-- reader, writer, guest, drafts are free -/
theorem GR_fre {B : Nat} {σ τ : gS} (h : GR B σ) (hq : ∀ q, (q = 0 ∨ q = 2 ∨ q = 3 ∨ (6 ≤ q ∧ q < 32) ∨ 60 ≤ q) → ¬ q = 326 → τ q = σ q) (hz : zR (τ 326)) : GR B τ := by
  obtain ⟨g1, g2, g3, g4, g5, g6, g7, g8, g9⟩ := h
  have e := fun q (h1 : q = 0 ∨ q = 2 ∨ q = 3 ∨ (6 ≤ q ∧ q < 32) ∨ 60 ≤ q) (h2 : ¬ q = 326) => hq q h1 h2
  have e324 := e 324 (by decide) (by decide)
  have e323 := e 323 (by decide) (by decide)
  refine ⟨?_, by rw [e324]; exact g2, ?_, SL_same (Nat.le_refl _) g4 (fun q q1 q2 => e q (by omega) (by omega)) (e 328 (by decide) (by decide)) (e 329 (by decide) (by decide)), ?_, ?_, ?_, ?_, ?_⟩
  · rw [e324]
    exact SV_blk g1 (fun q q1 q2 => e q (by omega) (by omega))
  · obtain ⟨⟨p1, p2, p3⟩, p4, p5⟩ := g3
    have e113 := e 113 (by decide) (by decide)
    have e327 := e 327 (by decide) (by decide)
    have eP : ∀ u, cPl τ u = cPl σ u := fun u => by unfold cPl; rw [e113]
    have hm : ∀ u, ((σ 113 1).toNatClampNeg + u) % 8 < 8 := fun u => Nat.mod_lt _ (by decide)
    refine ⟨⟨by unfold bPa; rw [e113]; exact p1, by rw [e113, e323]; exact p2, fun u hu => ?_⟩, fun u hu => ?_, fun j hj => ?_⟩
    · rw [e113] at hu
      rw [eP, e327]
      refine SV_blk (p3 u hu) (fun q q1 q2 => ?_)
      have := hm u
      unfold cPl at q1 q2
      exact e q (by omega) (by omega)
    · rw [e113] at hu
      rw [e327]
      exact p4 u hu
    · rw [e _ (by omega) (by omega)]
      exact p5 j hj
  · unfold TP
    rw [e 2 (by decide) (by decide), e 3 (by decide) (by decide), e323, e 330 (by decide) (by decide)]
    exact g5
  · rw [e 0 (by decide) (by decide), e323]
    exact g6
  · unfold RS
    rw [e324, e323]
    exact g7
  · unfold RZ
    rw [e324, e 325 (by decide) (by decide)]
    exact ⟨g8.1, g8.2.1, hz⟩
  · unfold RT
    rw [e323]
    exact g9
def clC (σ : gS) (x k f w s : Int32) : gS := if okK σ x k f w s then (if cTN σ ∧ σ 6 7 < 20 ∧ okF σ x k then cCom σ x k f w s else cBeg σ) else σ
/-! RELATION: append, truncate -/
/-- the tapes alone change -/
theorem GR_tap {B : Nat} {σ τ : gS} (h : GR B σ) (hq : ∀ q, ¬ q = 2 → ¬ q = 3 → ¬ q = 323 → ¬ q = 330 → τ q = σ q) (h323 : ∀ j, ¬ j = 8 → τ 323 j = σ 323 j) (hT : TP τ) : GR B τ := by
  obtain ⟨g1, g2, g3, g4, g5, g6, g7, g8, g9⟩ := h
  have e := fun q (h1 : ¬ q = 2) (h2 : ¬ q = 3) (h3 : ¬ q = 323) (h4 : ¬ q = 330) => hq q h1 h2 h3 h4
  have e324 := e 324 (by decide) (by decide) (by decide) (by decide)
  refine ⟨?_, by rw [e324]; exact g2, ?_, SL_same (Nat.le_refl _) g4 (fun q q1 q2 => e q (by omega) (by omega) (by omega) (by omega)) (e 328 (by decide) (by decide) (by decide) (by decide)) (e 329 (by decide) (by decide) (by decide) (by decide)), hT, ?_, ?_, ?_, ?_⟩
  · rw [e324]
    exact SV_blk g1 (fun q q1 q2 => e q (by omega) (by omega) (by omega) (by omega))
  · obtain ⟨⟨p1, p2, p3⟩, p4, p5⟩ := g3
    have e113 := e 113 (by decide) (by decide) (by decide) (by decide)
    have e327 := e 327 (by decide) (by decide) (by decide) (by decide)
    have eP : ∀ u, cPl τ u = cPl σ u := fun u => by unfold cPl; rw [e113]
    have hm : ∀ u, ((σ 113 1).toNatClampNeg + u) % 8 < 8 := fun u => Nat.mod_lt _ (by decide)
    refine ⟨⟨by unfold bPa; rw [e113]; exact p1, by rw [e113, h323 6 (by decide)]; exact p2, fun u hu => ?_⟩, fun u hu => ?_, fun j hj => ?_⟩
    · rw [e113] at hu
      rw [eP, e327]
      refine SV_blk (p3 u hu) (fun q q1 q2 => ?_)
      have := hm u
      unfold cPl at q1 q2
      exact e q (by omega) (by omega) (by omega) (by omega)
    · rw [e113] at hu
      rw [e327]
      exact p4 u hu
    · rw [e _ (by omega) (by omega) (by omega) (by omega)]
      exact p5 j hj
  · rw [e 0 (by decide) (by decide) (by decide) (by decide), h323 9 (by decide)]
    exact g6
  · unfold RS
    rw [e324, h323 6 (by decide)]
    exact g7
  · unfold RZ
    rw [e324, e 325 (by decide) (by decide) (by decide) (by decide), e 326 (by decide) (by decide) (by decide) (by decide)]
    exact g8
  · unfold RT
    rw [hT.2.1]
    exact hT.1
def clA (σ : gS) (Bt : Nat → Int32) : gS := if 1000 < σ 2 1 + 20 then σ else cApp σ (σ 2 1).toNatClampNeg Bt 20
theorem GR_append {B : Nat} {σ : gS} {Bt : Nat → Int32} (h : GR B σ) : (∀ q, 323 ≤ q → clA σ Bt q = σ q) ∧ (if 1000 < σ 2 1 + 20 then -1 else σ 2 1 + 20) = (if 1000 < σ 323 8 + 20 then -1 else σ 323 8 + 20) ∧ GR B (hAp (clA σ Bt) Bt) := by
  have g5 := h.2.2.2.2.1
  obtain ⟨hL, h8, hT⟩ := g5
  obtain ⟨eL, l⟩ := l1000 hL
  obtain ⟨L, hLL⟩ : ∃ L, (σ 2 1).toNatClampNeg = L := ⟨_, rfl⟩
  have hi : ∀ q, 323 ≤ q → clA σ Bt q = σ q := by
    intro q hq
    unfold clA
    split
    · rfl
    · unfold cApp
      rw [grow_ne (by omega), grow_ne (by omega)]
  refine ⟨hi, by rw [h8], ?_⟩
  unfold hAp
  rw [hi 323 (by decide), hi 330 (by decide), h8]
  unfold clA
  by_cases hc : 1000 < σ 2 1 + 20
  · rw [if_pos hc, if_pos hc]; exact h
  · rw [if_neg hc, if_neg hc]
    rw [hLL] at eL l hT ⊢
    have l980 : L ≤ 980 := by
      rw [eL, show (20 : Int32) = iN 20 from rfl, iN_add, show (1000 : Int32) = iN 1000 from rfl, iN_lt (by omega) (by omega)] at hc
      omega
    obtain ⟨τ, hτ⟩ : ∃ τ, grow (grow (cApp σ L Bt 20) 330 (fAp (σ 330) L Bt 20)) 323 (rup (σ 323) 8 (σ 2 1 + 20)) = τ := ⟨_, rfl⟩
    rw [hτ]
    have t2 : τ 2 1 = iN (L + 20) := by
      rw [← hτ, grow_ne (by decide), grow_ne (by decide), cApp_2]
    have t3 : τ 3 = fAp (σ 3) L Bt 20 := by
      rw [← hτ, grow_ne (by decide), grow_ne (by decide)]
      unfold cApp
      rw [grow_ne (by decide), grow_at]
    have t330 : τ 330 = fAp (σ 330) L Bt 20 := by rw [← hτ, grow_ne (by decide), grow_at]
    have t323 : τ 323 = rup (σ 323) 8 (σ 2 1 + 20) := by rw [← hτ, grow_at]
    refine GR_tap h (fun q q2 q3 q4 q5 => ?_) (fun j hj => by rw [t323, rup_ne hj]) ⟨?_, ?_, fun i hi2 => ?_⟩
    · rw [← hτ, grow_ne q4, grow_ne q5]
      unfold cApp
      rw [grow_ne q2, grow_ne q3]
    · rw [t2]
      exact ⟨(iN_le (k := 0) (by decide) (by omega)).mpr (by omega), (iN_le (m := 1000) (by omega) (by decide)).mpr (by omega)⟩
    · rw [t2, t323, rup_at, eL, show (20 : Int32) = iN 20 from rfl, iN_add]
    · rw [t2, iN_nat (by omega)] at hi2
      rw [t330, t3]
      unfold fAp
      by_cases q : L ≤ i ∧ i < L + 20
      · rw [if_pos q, if_pos q]
      · rw [if_neg q, if_neg q]
        exact hT i (by omega)
def clU (σ : gS) (n : Int32) : gS := if 0 ≤ n ∧ n ≤ σ 2 1 then gup σ 2 1 (σ 2 1 - n) else σ
