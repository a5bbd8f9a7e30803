section
-- text 75
/-! RELATION: truncate, station -/
theorem GR_trunc {B : Nat} {σ : gS} {n : Int32} (h : GR B σ) : (∀ q, 323 ≤ q → clU σ n q = σ q) ∧ (if 0 ≤ n ∧ n ≤ σ 2 1 then σ 2 1 - n else -1) = (if gTru (σ 323 8) n then σ 323 8 - n else -1) ∧ GR B (if gTru (clU σ n 323 8) n then grow (clU σ n) 323 (rup (clU σ n 323) 8 (clU σ n 323 8 - n)) else clU σ n) := by
  have g5 := h.2.2.2.2.1
  obtain ⟨hL, h8, hT⟩ := g5
  obtain ⟨eL, l⟩ := l1000 hL
  obtain ⟨L, hLL⟩ : ∃ L, (σ 2 1).toNatClampNeg = L := ⟨_, rfl⟩
  have hi : ∀ q, 323 ≤ q → clU σ n q = σ q := by
    intro q hq
    unfold clU
    split
    · funext j; exact gup_ne (by omega)
    · rfl
  have hg : gTru (σ 323 8) n ↔ (0 ≤ n ∧ n ≤ σ 2 1) := by unfold gTru; rw [h8, Int32.not_lt, Int32.not_lt]
  refine ⟨hi, ?_, ?_⟩
  · by_cases q : 0 ≤ n ∧ n ≤ σ 2 1
    · rw [if_pos q, if_pos (hg.mpr q), h8]
    · rw [if_neg q, if_neg (fun z => q (hg.mp z))]
  · rw [hi 323 (by decide)]
    by_cases q : 0 ≤ n ∧ n ≤ σ 2 1
    · rw [if_pos (hg.mpr q)]
      unfold clU
      rw [if_pos q]
      rw [hLL] at eL l hT
      obtain ⟨en, ln⟩ := iN_of q.1
      obtain ⟨k, hk⟩ : ∃ k, n.toNatClampNeg = k := ⟨_, rfl⟩
      rw [hk] at en ln
      have kL : k ≤ L := by
        have := q.2
        rw [en, eL] at this
        exact (iN_le ln (by omega)).mp this
      have eD : σ 2 1 - n = iN (L - k) := by
        rw [eL, en]
        exact iN_sub (by omega) (by omega)
      rw [h8, eD]
      obtain ⟨τ, hτ⟩ : ∃ τ, grow (gup σ 2 1 (iN (L - k))) 323 (rup (σ 323) 8 (iN (L - k))) = τ := ⟨_, rfl⟩
      rw [hτ]
      have t2 : τ 2 1 = iN (L - k) := by rw [← hτ, grow_ne (by decide), gup_at]
      have t323 : τ 323 = rup (σ 323) 8 (iN (L - k)) := by rw [← hτ, grow_at]
      have tq : ∀ q, ¬ q = 2 → ¬ q = 323 → τ q = σ q := fun q q2 q3 => by
        rw [← hτ, grow_ne q3]
        funext j
        exact gup_ne (by omega)
      refine GR_tap h (fun q q2 q3 q4 q5 => tq q q2 q4) (fun j hj => by rw [t323, rup_ne hj]) ⟨?_, ?_, fun i hi2 => ?_⟩
      · rw [t2]
        exact ⟨(iN_le (k := 0) (by decide) (by omega)).mpr (by omega), (iN_le (m := 1000) (by omega) (by decide)).mpr (by omega)⟩
      · rw [t2, t323, rup_at]
      · rw [t2, iN_nat (by omega)] at hi2
        rw [tq 330 (by decide) (by decide), tq 3 (by decide) (by decide)]
        exact hT i (by omega)
    · rw [if_neg (fun z => q (hg.mp z))]
      unfold clU
      rw [if_neg q]
      exact h
theorem cOff_far {σ : gS} {t q : Nat} (h7 : 0 ≤ σ 6 7 ∧ σ 6 7 ≤ 20) (ht : t < 20) (h : q < 6 ∨ 32 ≤ q) : cOff σ t q = σ q := by
  have l := (c20 h7).2
  funext j
  unfold cOff cOut
  rw [gup_ne (by omega), cSh_e, if_neg (by omega), gup_ne (by omega), cCnt_off (by omega), cAdd_far (by omega) (by omega)]
theorem go_far {q : Nat} (h : q < 6 ∨ 32 ≤ q) : ∀ {k : Nat} {σ : gS} {R : gW}, SV σ 6 R → k ≤ nM R → cGoN k σ q = σ q
  | 0, _, _, _, _ => rfl
  | k + 1, σ, R, hS, hk => by
    obtain ⟨s1, s2⟩ := SV_go1 hS (k := k) (by omega)
    obtain ⟨b3, bn, e7⟩ := SV_3 hS
    have i := go_far h (k := k) s1 s2
    show cGoN k _ q = σ q
    rw [i]
    split
    · exact cOff_far (by rw [e7]; exact b3) (by omega) h
    · rfl
theorem goM_far {q : Nat} {σ : gS} {R : gW} (h : q < 6 ∨ 32 ≤ q) (hS : SV σ 6 R) : ∀ k, cGoM k σ q = σ q
  | 0 => rfl
  | k + 1 => by
    have i := goM_far h hS k
    have s := SV_goM hS (k := k)
    have e7 := (SV_3 s).2.2
    show cGo (cGoM k σ) q = σ q
    unfold cGo
    rw [show (cGoM k σ 6 7).toNatClampNeg = nM (stm k R) from by rw [e7]; rfl, go_far h (SV_time s) (by rw [nM_radd2]; exact Nat.le_refl _)]
    rw [← i]
    funext j
    exact gup_ne (by omega)
theorem zR_off {R : gW} {t : Nat} (h : zR R) (hb : bN R) (ht : t < nM R) : zR (fOff R t) := fun j hj => by
  have hn := (nM_of hb.1).2
  unfold fOff
  rw [radd_ne (by omega), csh_lo (by omega), radd_ne (by omega), fTe_ne hb.2 (Or.inr hj)]
  exact h j hj
theorem zR_stpN : ∀ {k : Nat} {R : gW}, zR R → bN R → k ≤ nM R → zR (stpN k R)
  | 0, R, h, _, _ => h
  | k + 1, R, h, hb, hk => by
    obtain ⟨b1, b2⟩ := stp1_b hb (k := k) (by omega)
    have z : zR (stp1 R k) := by
      unfold stp1
      split
      · exact zR_off h hb (by omega)
      · exact h
    exact zR_stpN (k := k) z b1 b2
theorem zR_stm {R : gW} (h : zR R) (hb : bN R) : ∀ k, zR (stm k R)
  | 0 => h
  | k + 1 => by
    have i := zR_stm h hb k
    have b := (stm_sum hb k).2
    have b2 : bN (radd (stm k R) 2 1) := ⟨by rw [radd_ne (by decide)]; exact b.1, by rw [radd_ne (by decide)]; exact b.2⟩
    exact zR_stpN (zR_rup i (by decide)) b2 (by rw [nM_radd2]; exact Nat.le_refl _)
def clN (σ : gS) (m : Int32) : gS := if 1 ≤ m ∧ m ≤ 50 then (if 999 < σ 6 6 + m then σ else cGoM m.toNatClampNeg (cRem σ)) else σ
theorem GR_station {B : Nat} {σ : gS} {m : Int32} (h : GR B σ) : (∀ q, 323 ≤ q → clN σ m q = σ q) ∧ (if 1 ≤ m ∧ m ≤ 50 then (if 999 < σ 6 6 + m then -3 else σ 6 7 - cGoM m.toNatClampNeg (cRem σ) 6 7) else -1) = aSta (σ 324) m ∧ GR B (hOp (clN σ m) (gSta (σ 324) m) (stm m.toNatClampNeg (σ 324))) := by
  have h' := h
  obtain ⟨g1, g2, g3, g4, g5, g6, g7, g8, g9⟩ := h'
  obtain ⟨b3, bn, e7⟩ := SV_3 g1
  have h7 : 0 ≤ σ 6 7 ∧ σ 6 7 ≤ 20 := by rw [e7]; exact b3
  have e2 : σ 6 6 = σ 324 2 := by
    have := g1.1.1 2 (by decide)
    rw [cR_h (by decide)] at this
    exact this
  have sM := SV_goM (SV_rem g1) (k := m.toNatClampNeg)
  have far : ∀ q, q < 6 ∨ 32 ≤ q → cGoM m.toNatClampNeg (cRem σ) q = cRem σ q := fun q hq => goM_far hq (SV_rem g1) _
  have hi : ∀ q, 323 ≤ q → clN σ m q = σ q := by
    intro q hq
    unfold clN
    split
    · split
      · rfl
      · rw [far q (by omega), cRem_far (Or.inr hq) h7]
    · rfl
  have eg : gSta (σ 324) m ↔ ((1 ≤ m ∧ m ≤ 50) ∧ ¬ 999 < σ 6 6 + m) := by unfold gSta; rw [e2]
  refine ⟨hi, ?_, ?_⟩
  · unfold aSta
    rw [e2]
    by_cases q : 1 ≤ m ∧ m ≤ 50
    · rw [if_pos q, if_pos q]
      by_cases q2 : 999 < σ 324 2 + m
      · rw [if_pos q2, if_pos q2]
      · rw [if_neg q2, if_neg q2, (SV_3 sM).2.2, e7]
        have := (stm_sum g7.1 m.toNatClampNeg).1
        grind
    · rw [if_neg q, if_neg q]
  · unfold hOp clN
    by_cases q : gSta (σ 324) m
    · have q' := eg.mp q
      rw [if_pos q, if_pos q'.1, if_neg q'.2]
      exact GR_call h (Nat.le_refl _) far sM (GD_stm g2 g7.1 _).1 (zR_stm g8.1 g7.1 _)
    · rw [if_neg q]
      by_cases q1 : 1 ≤ m ∧ m ≤ 50
      · rw [if_pos q1]
        by_cases q2 : 999 < σ 6 6 + m
        · rw [if_pos q2]; exact h
        · exact absurd (eg.mpr ⟨q1, q2⟩) q
      · rw [if_neg q1]; exact h
-- text 76
/-! RELATION: keep, restore, undo -/
theorem zR_rowAt (E : gW) (u : Nat) : zR (rowAt E u) := fun j hj => by unfold rowAt; rw [if_neg (by omega)]
/-- the slots alone change -/
theorem GR_slo {B : Nat} {σ τ : gS} (h : GR B σ) (hq : ∀ q, (q < 60 ∨ 113 ≤ q) → ¬ q = 328 → ¬ q = 329 → τ q = σ q) (hS : SL B τ) : GR B τ := by
  obtain ⟨g1, g2, g3, g4, g5, g6, g7, g8, g9⟩ := h
  have e := fun q (h1 : q < 60 ∨ 113 ≤ q) (h2 : ¬ q = 328) (h3 : ¬ q = 329) => hq q h1 h2 h3
  have e324 := e 324 (by decide) (by decide) (by decide)
  have e323 := e 323 (by decide) (by decide) (by decide)
  refine ⟨?_, by rw [e324]; exact g2, ?_, hS, ?_, ?_, ?_, ?_, ?_⟩
  · rw [e324]
    exact SV_blk g1 (fun q q1 q2 => e q (by omega) (by omega) (by omega))
  · obtain ⟨⟨p1, p2, p3⟩, p4, p5⟩ := g3
    have e113 := e 113 (by decide) (by decide) (by decide)
    have e327 := e 327 (by decide) (by decide) (by decide)
    have eP : ∀ u, cPl τ u = cPl σ u := fun u => by unfold cPl; rw [e113]
    have hm : ∀ u, ((σ 113 1).toNatClampNeg + u) % 8 < 8 := fun u => Nat.mod_lt _ (by decide)
    refine ⟨⟨by unfold bPa; rw [e113]; exact p1, by rw [e113, e323]; exact p2, fun u hu => ?_⟩, fun u hu => ?_, fun j hj => ?_⟩
    · rw [e113] at hu
      rw [eP, e327]
      refine SV_blk (p3 u hu) (fun q q1 q2 => ?_)
      have := hm u
      unfold cPl at q1 q2
      exact e q (by omega) (by omega) (by omega)
    · rw [e113] at hu
      rw [e327]
      exact p4 u hu
    · rw [e _ (by omega) (by omega) (by omega)]
      exact p5 j hj
  · unfold TP
    rw [e 2 (by decide) (by decide) (by decide), e 3 (by decide) (by decide) (by decide), e323, e 330 (by decide) (by decide) (by decide)]
    exact g5
  · rw [e 0 (by decide) (by decide) (by decide), e323]
    exact g6
  · unfold RS
    rw [e324, e323]
    exact g7
  · unfold RZ
    rw [e324, e 325 (by decide) (by decide) (by decide), e 326 (by decide) (by decide) (by decide)]
    exact g8
  · unfold RT
    rw [e323]
    exact g9
def clK (σ : gS) (f : Int32) : gS := if isSl f then gup (cCo σ (60 + 26 * f.toNatClampNeg) 6) 112 f.toNatClampNeg 1 else σ
theorem GR_keep {B : Nat} {σ : gS} {f : Int32} (h : GR B σ) : (∀ q, 323 ≤ q → clK σ f q = σ q) ∧ (if isSl f then σ 6 7 else -1) = (if isSl f then σ 324 3 else -1) ∧ GR B (if isSl f then hKp (clK σ f) f.toNatClampNeg else clK σ f) := by
  have h' := h
  obtain ⟨g1, g2, g3, g4, g5, g6, g7, g8, g9⟩ := h'
  obtain ⟨b3, bn, e7⟩ := SV_3 g1
  have n7 : (σ 6 7).toNatClampNeg ≤ 20 := by rw [e7]; exact bn
  by_cases hf : isSl f
  · obtain ⟨ef, lf⟩ := s01 hf
    obtain ⟨m, hm⟩ : ∃ m, f.toNatClampNeg = m := ⟨_, rfl⟩
    rw [hm] at ef lf
    have m2 : m < 2 := by omega
    have hi0 : ∀ q, q < 60 ∨ 113 ≤ q → clK σ f q = σ q := by
      intro q hq
      unfold clK
      rw [if_pos hf, hm]
      funext j
      rw [gup_ne (by omega), cCo_far (by omega) n7]
    refine ⟨fun q hq => hi0 q (by omega), by rw [if_pos hf, if_pos hf, e7], ?_⟩
    rw [if_pos hf, hm]
    obtain ⟨τ, hτ⟩ : ∃ τ, hKp (clK σ f) m = τ := ⟨_, rfl⟩
    have t : ∀ q, ¬ q = 328 → ¬ q = 329 → τ q = clK σ f q := fun q q1 q2 => by rw [← hτ]; unfold hKp; rw [grow_ne q2, grow_ne q1]
    have t328 : τ 328 = rla (σ 324) (σ 328) 0 (330 * m) 330 := by
      rw [← hτ]
      unfold hKp
      rw [grow_ne (by decide), grow_at, hi0 324 (by decide), hi0 328 (by decide)]
    have t329 : τ 329 = rup (σ 329) m 1 := by
      rw [← hτ]
      unfold hKp
      rw [grow_at, hi0 329 (by decide)]
    rw [hτ]
    refine GR_slo h (fun q q1 q2 q3 => by rw [t q q2 q3]; exact hi0 q q1) ?_
    intro s hs
    obtain ⟨a1, a2, a3⟩ := g4 s hs
    have c112 : τ 112 s = if s = m then 1 else σ 112 s := by
      rw [t 112 (by decide) (by decide)]
      unfold clK
      rw [if_pos hf, hm]
      by_cases q : s = m
      · subst q; rw [gup_at, if_pos rfl]
      · rw [gup_ne (by omega), cCo_far (by omega) n7, if_neg q]
    have blk : ∀ q, 60 ≤ q → q < 112 → τ q = cCo σ (60 + 26 * m) 6 q := by
      intro q q1 q2
      rw [t q (by omega) (by omega)]
      unfold clK
      rw [if_pos hf, hm]
      funext j
      exact gup_ne (by omega)
    by_cases q : s = m
    · subst q
      have sC := cCo_ok (p := 60 + 26 * s) (q := 6) (by omega) g1
      have er : ∀ j, j < 330 → rowAt (τ 328) s j = σ 324 j := fun j hj => by rw [t328, rowAt_lt hj, rla_in hj]
      refine ⟨by rw [c112, if_pos rfl, t329, rup_at], ?_, fun _ => ⟨?_, GD_row g2 b3 er⟩⟩
      · rw [blk _ (by omega) (by omega), (SV_3 sC).2.2]
        exact b3
      · exact SV_blk (SV_row sC er) (fun q q1 q2 => blk q (by omega) (by omega))
    · have er : rowAt (τ 328) s = rowAt (σ 328) s := by
        funext j
        rw [t328]
        unfold rowAt
        split
        · unfold rla
          rw [if_neg (by omega)]
        · rfl
      have bs : ∀ q, 60 + 26 * s ≤ q → q < 60 + 26 * s + 26 → τ q = σ q := by
        intro q q1 q2
        rw [blk q (by omega) (by omega)]
        funext j
        exact cCo_far (by omega) n7
      refine ⟨by rw [c112, if_neg q, t329, rup_ne q]; exact a1, by rw [bs _ (by omega) (by omega)]; exact a2, fun z => ?_⟩
      rw [c112, if_neg q] at z
      obtain ⟨c1, c2⟩ := a3 z
      rw [er]
      exact ⟨SV_blk c1 bs, c2⟩
  · unfold clK
    rw [if_neg hf, if_neg hf, if_neg hf, if_neg hf]
    exact ⟨fun q _ => rfl, rfl, h⟩
def clV (σ : gS) (f : Int32) : gS := if isSl f ∧ ¬ σ 112 f.toNatClampNeg = 0 then cCo (cRem σ) 6 (60 + 26 * f.toNatClampNeg) else σ
theorem GR_restore {B : Nat} {σ : gS} {f : Int32} (h : GR B σ) : (∀ q, 323 ≤ q → clV σ f q = σ q) ∧ (if isSl f then (if σ 112 f.toNatClampNeg = 0 then -2 else σ (60 + 26 * f.toNatClampNeg) 7) else -1) = aRes σ f ∧ GR B (hOp (clV σ f) (gRes σ f) (rowAt (σ 328) f.toNatClampNeg)) := by
  have h' := h
  obtain ⟨g1, g2, g3, g4, g5, g6, g7, g8, g9⟩ := h'
  obtain ⟨b3, bn, e7⟩ := SV_3 g1
  have h7 : 0 ≤ σ 6 7 ∧ σ 6 7 ≤ 20 := by rw [e7]; exact b3
  unfold aRes hOp clV
  by_cases hf : isSl f
  · obtain ⟨ef, lf⟩ := s01 hf
    obtain ⟨a1, a2, a3⟩ := g4 f.toNatClampNeg (by omega)
    by_cases z : σ 112 f.toNatClampNeg = 0
    · have z2 : σ 329 f.toNatClampNeg = 0 := by rw [← a1]; exact z
      rw [if_pos hf, if_pos hf, if_pos z, if_pos z2, if_neg (fun q => q.2 z), if_neg (show ¬ gRes σ f from fun q => q.2 (z2))]
      exact ⟨fun q _ => rfl, rfl, h⟩
    · have z2 : ¬ σ 329 f.toNatClampNeg = 0 := by rw [← a1]; exact z
      obtain ⟨c1, c2⟩ := a3 z
      rw [if_pos hf, if_pos hf, if_neg z, if_neg z2, if_pos ⟨hf, z⟩, if_pos (show gRes σ f from ⟨hf, z2⟩)]
      have sR : SV (cRem σ) (60 + 26 * f.toNatClampNeg) (rowAt (σ 328) f.toNatClampNeg) := SV_blk c1 (fun q q1 q2 => cRem_far (Or.inl (by omega)) h7)
      have nR : (cRem σ (60 + 26 * f.toNatClampNeg) 7).toNatClampNeg ≤ 20 := by
        rw [cRem_far (Or.inl (by omega)) h7]
        exact (c20 a2).2
      have sC := cCo_ok (p := 6) (q := 60 + 26 * f.toNatClampNeg) (by omega) sR
      have far : ∀ q, q < 6 ∨ 32 ≤ q → cCo (cRem σ) 6 (60 + 26 * f.toNatClampNeg) q = cRem σ q := fun q hq => by
        funext j
        exact cCo_far (by omega) nR
      refine ⟨fun q hq => by rw [far q (by omega), cRem_far (Or.inr hq) h7], (SV_3 c1).2.2, ?_⟩
      exact GR_call h (Nat.le_refl _) far sC c2 (zR_rowAt _ _)
  · rw [if_neg hf, if_neg hf, if_neg (fun q => hf q.1), if_neg (show ¬ gRes σ f from fun q => hf q.1)]
    exact ⟨fun q _ => rfl, rfl, h⟩
end
section
-- text 77
/-! RELATION: undo -/
def clW (σ : gS) : gS := if σ 113 2 = 0 then σ else cBk σ
theorem GR_undo {B : Nat} {σ : gS} (h : GR B σ) : (∀ q, 323 ≤ q → clW σ q = σ q) ∧ (if σ 113 2 = 0 then -1 else σ 113 2 - 1) = (if σ 323 6 = 0 then -1 else σ 323 6 - 1) ∧ GR B (hUn (clW σ)) := by
  have h' := h
  obtain ⟨g1, g2, g3, g4, g5, g6, g7, g8, g9⟩ := h'
  obtain ⟨⟨p1, p2, p3⟩, p4, p5⟩ := g3
  obtain ⟨O, C, eo, ec, lo, lc, no, nc⟩ := bPa_n p1
  have eU : σ 323 6 = iN C := by rw [← p2]; exact ec
  have hpl : ∀ u, cPl σ u = 115 + 26 * ((O + u) % 8) := fun u => by unfold cPl; rw [no]
  have hm : ∀ u, (O + u) % 8 < 8 := fun u => Nat.mod_lt _ (by decide)
  by_cases hz : σ 113 2 = 0
  · have hz2 : σ 323 6 = 0 := by rw [← p2]; exact hz
    unfold clW hUn
    rw [if_pos hz, if_pos hz, if_pos hz2, if_pos hz2]
    exact ⟨fun q _ => rfl, rfl, h⟩
  · have hz2 : ¬ σ 323 6 = 0 := by rw [← p2]; exact hz
    have C1 : 1 ≤ C := by
      rw [ec] at hz
      have : C ≠ 0 := fun q => hz (by rw [q]; rfl)
      omega
    have eD : iN C - 1 = iN (C - 1) := iN_sub (d := 1) (by omega) (by omega)
    have sU := p3 (C - 1) (by rw [nc]; omega)
    have gU := p4 (C - 1) (by rw [nc]; omega)
    rw [hpl] at sU
    have mU := hm (C - 1)
    have eW : clW σ = cCo (gup σ 113 2 (iN (C - 1))) 6 (115 + 26 * ((O + (C - 1)) % 8)) := by
      unfold clW cBk
      rw [if_neg hz, nc, hpl, ec, eD]
    have s1 : SV (gup σ 113 2 (iN (C - 1))) (115 + 26 * ((O + (C - 1)) % 8)) (rowAt (σ 327) (C - 1)) := SV_blk sU (fun q q1 q2 => funext fun j => gup_ne (by omega))
    have nU : (gup σ 113 2 (iN (C - 1)) (115 + 26 * ((O + (C - 1)) % 8)) 7).toNatClampNeg ≤ 20 := by
      rw [(SV_3 s1).2.2]
      exact (SV_3 s1).2.1
    have sC := cCo_ok (p := 6) (q := 115 + 26 * ((O + (C - 1)) % 8)) (by omega) s1
    have fW : ∀ q j, q < 6 ∨ 32 ≤ q → ¬ (q = 113 ∧ j = 2) → clW σ q j = σ q j := fun q j hq hj => by
      rw [eW, cCo_far (by omega) nU, gup_ne hj]
    have w2 : clW σ 113 2 = iN (C - 1) := by rw [eW, cCo_far (by omega) nU, gup_at]
    have hi : ∀ q, 323 ≤ q → clW σ q = σ q := fun q hq => funext fun j => fW q j (by omega) (by omega)
    refine ⟨hi, by rw [if_neg hz, if_neg hz2, p2], ?_⟩
    unfold hUn
    rw [hi 323 (by decide), hi 327 (by decide), if_neg hz2, eU, eD, iN_nat (by omega)]
    obtain ⟨τ, hτ⟩ : ∃ τ, grow (grow (clW σ) 323 (rup (σ 323) 6 (iN (C - 1)))) 324 (rowAt (σ 327) (C - 1)) = τ := ⟨_, rfl⟩
    rw [hτ]
    have t : ∀ q, ¬ q = 323 → ¬ q = 324 → τ q = clW σ q := fun q q1 q2 => by rw [← hτ, grow_ne q2, grow_ne q1]
    have t324 : τ 324 = rowAt (σ 327) (C - 1) := by rw [← hτ, grow_at]
    have t323 : τ 323 = rup (σ 323) 6 (iN (C - 1)) := by rw [← hτ, grow_ne (by decide), grow_at]
    have tq : ∀ q, q < 6 ∨ 32 ≤ q → ¬ q = 113 → ¬ q = 323 → ¬ q = 324 → τ q = σ q := fun q hq q1 q2 q3 => by
      rw [t q q2 q3]
      exact funext fun j => fW q j hq (by omega)
    have t1 : τ 113 1 = σ 113 1 := by rw [t 113 (by decide) (by decide)]; exact fW 113 1 (by decide) (by decide)
    have t2 : τ 113 2 = iN (C - 1) := by rw [t 113 (by decide) (by decide)]; exact w2
    have eP : ∀ u, cPl τ u = cPl σ u := fun u => by unfold cPl; rw [t1]
    have b8 : 0 ≤ iN (C - 1) ∧ iN (C - 1) ≤ 8 := ⟨(iN_le (k := 0) (by decide) (by omega)).mpr (by omega), (iN_le (m := 8) (by omega) (by decide)).mpr (by omega)⟩
    have e327 := tq 327 (by decide) (by decide) (by decide) (by decide)
    refine ⟨?_, by rw [t324]; exact gU, ⟨⟨?_, ?_, fun u hu => ?_⟩, fun u hu => ?_, fun j hj => ?_⟩, SL_same (Nat.le_refl _) g4 (fun q q1 q2 => tq q (by omega) (by omega) (by omega) (by omega)) (tq 328 (by decide) (by decide) (by decide) (by decide)) (tq 329 (by decide) (by decide) (by decide) (by decide)), ?_, ?_, ?_, ?_, ?_⟩
    · rw [t324]
      rw [← eW] at sC
      exact SV_blk sC (fun q q1 q2 => t q (by omega) (by omega))
    · unfold bPa
      rw [t1, t2]
      exact ⟨p1.1, b8⟩
    · rw [t2, t323, rup_at]
    · rw [t2, iN_nat (by omega)] at hu
      rw [eP, e327, hpl]
      have := p3 u (by rw [nc]; omega)
      rw [hpl] at this
      have mu := hm u
      exact SV_blk this (fun q q1 q2 => tq q (by omega) (by omega) (by omega) (by omega))
    · rw [t2, iN_nat (by omega)] at hu
      rw [e327]
      exact p4 u (by rw [nc]; omega)
    · rw [tq _ (by omega) (by omega) (by omega) (by omega)]
      exact p5 j hj
    · unfold TP
      rw [tq 2 (by decide) (by decide) (by decide) (by decide), tq 3 (by decide) (by decide) (by decide) (by decide), tq 330 (by decide) (by decide) (by decide) (by decide), t323, rup_ne (by decide)]
      exact g5
    · rw [tq 0 (by decide) (by decide) (by decide) (by decide), t323, rup_ne (by decide)]
      exact g6
    · unfold RS
      rw [t324, t323, rup_at]
      have sb := SV_b sU
      exact ⟨sb, b8⟩
    · unfold RZ
      rw [t324, tq 325 (by decide) (by decide) (by decide) (by decide), tq 326 (by decide) (by decide) (by decide) (by decide)]
      exact ⟨zR_rowAt _ _, g8.2.1, g8.2.2⟩
    · unfold RT
      rw [t323, rup_ne (by decide)]
      exact g9
-- text 78
/-! THE CLASS: what must stand, and what may -/
/-- the reader stands on a token -/
def RK (σ : gS) : Prop := ((RW σ ∧ (¬ σ 1 4 = 0 → RD σ)) ∧ (0 ≤ σ 1 3 ∧ σ 1 3 ≤ 1001)) ∧ σ 1 4 = cKd (cBy (σ 3) (σ 2 1).toNatClampNeg (σ 1 2).toNatClampNeg)
theorem cTok_ne {σ : gS} {q j : Nat} (h : ¬ (q = 1 ∧ (j = 2 ∨ j = 3 ∨ j = 4))) : cTok σ q j = σ q j := by
  unfold cTok cTk4
  rw [gup_ne (by omega), gup_ne (by omega), gup_ne (by omega)]
theorem cTok_1 {σ : gS} {L n : Nat} (nL : (σ 2 1).toNatClampNeg = L) (nn : (σ 1 3).toNatClampNeg = n) : cTok σ 1 2 = iN (tkS (σ 3) L n) ∧ cTok σ 1 3 = iN (tkE (σ 3) L n) ∧ cTok σ 1 4 = tkK (σ 3) L n := by
  unfold cTok cTk4
  rw [nL, nn]
  refine ⟨?_, gup_at _ _ _, ?_⟩
  · rw [gup_ne (by omega), gup_ne (by omega), gup_at]
  · rw [gup_ne (by omega), gup_at]
theorem tkE_k {T : gW} {L n : Nat} (h : n ≤ L) (hk : ¬ tkK T L n = 0) : tkE T L n ≤ L := by
  have hs := tkS_b (T := T) h
  have sL : tkS T L n < L := by
    apply Nat.lt_of_not_le
    intro q
    apply hk
    unfold tkK cBy
    rw [if_neg (by omega)]
    decide
  have b := skp_b (P := fun i => decide (cKd (T i) = tkK T L n)) (d := L - (tkS T L n + 1)) (s := tkS T L n + 1)
  unfold tkE
  split <;> omega
theorem cTok_RK {σ : gS} (h : RD σ) : RK (cTok σ) := by
  obtain ⟨L, n, eL, en, lL, ln, nL, nn⟩ := RD_n h
  obtain ⟨c1, c2, c3⟩ := cTok_1 nL nn
  have bS := tkS_b (T := σ 3) ln
  have bE := tkE_b (T := σ 3) ln
  have e2 : cTok σ 2 1 = σ 2 1 := cTok_ne (by omega)
  refine ⟨⟨⟨?_, fun hk => ?_⟩, ?_⟩, ?_⟩
  · unfold RW
    rw [e2, c1]
    exact ⟨h.1, (iN_le (k := 0) (by decide) (by omega)).mpr (by omega), (iN_le (m := 1000) (by omega) (by decide)).mpr (by omega)⟩
  · rw [c3] at hk
    have l := tkE_k ln hk
    unfold RD
    rw [e2, c2, eL]
    refine ⟨by rw [← eL]; exact h.1, (iN_le (k := 0) (by decide) (by omega)).mpr (by omega), (iN_le (by omega) (by omega)).mpr l⟩
  · rw [c2]
    exact ⟨(iN_le (k := 0) (by decide) (by omega)).mpr (by omega), (iN_le (m := 1001) (by omega) (by decide)).mpr (by omega)⟩
  · have e3 : cTok σ 3 = σ 3 := funext fun j => cTok_ne (by omega)
    rw [c3, c1, e2, e3, nL, iN_nat (by omega)]
    rfl
theorem RK_w {σ : gS} {x : Int32} (h : RK σ) : RK (gup σ 1 5 x) := by
  obtain ⟨⟨⟨h1, h2⟩, h3⟩, h4⟩ := h
  have e3 : gup σ 1 5 x 3 = σ 3 := funext fun j => gup_ne (by omega)
  unfold RK RW RD at *
  rw [gup_ne (by omega), gup_ne (by omega), gup_ne (by omega), gup_ne (by omega), e3]
  exact ⟨⟨⟨h1, h2⟩, h3⟩, h4⟩
/-- what must stand -/
def cPs (σ : gS) (c : Int32) : gS := if σ 1 5 = 0 ∧ ¬ c = 0 then cTok σ else gup σ 1 5 1
theorem cPs_RK {σ : gS} {c : Int32} (h : RK σ) (hc : ¬ c = 0 → ¬ σ 1 4 = 0) : RK (cPs σ c) := by
  unfold cPs
  split
  · rename_i q
    exact cTok_RK (h.1.1.2 (hc q.2))
  · exact RK_w h
theorem gup_id {σ : gS} {p j : Nat} {x : Int32} (h : σ p j = x) : gup σ p j x = σ := by
  funext q i
  unfold gup
  split
  · rename_i e
    rw [e.1, e.2, h]
  · rfl
/-- a number's digits -/
def nuN (T : gW) (s : Nat) : Nat → Int32
  | 0 => 0
  | k + 1 => 10 * nuN T s k + T (s + k) - 48
def cNu (σ : gS) : Int32 := if σ 1 4 = 3 ∧ ¬ 2 < σ 1 3 - σ 1 2 then nuN (σ 3) (σ 1 2).toNatClampNeg ((σ 1 3).toNatClampNeg - (σ 1 2).toNatClampNeg) else -1
set_option maxRecDepth 20000 in
theorem w21 {σ : gS} {K : gK} (h : ((¬ (σ 1 4) = 3 → K (some (.int (-1))) σ) ∧ ((σ 1 4) = 3 → ((¬ 2 < ((σ 1 3) - (σ 1 2)) → gE 21 30 [some (.ref 1), some (.int 0), some (.int (σ 1 2))] [] σ K) ∧ (2 < ((σ 1 3) - (σ 1 2)) → K (some (.int (-1))) σ))))) : gE 21 0 [some (.ref 1), none, none] [] σ K :=
  gw_run (cy := 21) (cuts := [30]) (inl := []) (pf := gpdm) gpdm_ok 400 (by decide) h
set_option maxRecDepth 20000 in
theorem v21 {σ : gS} {K : gK} {n i : Int32} (h : ((¬ i < (σ 1 3) → K (some (.int n)) σ) ∧ (i < (σ 1 3) → (σ 2 1 ≤ 1000) ∧ gE 21 30 [some (.ref 1), some (.int (((10 * n) + (if 0 ≤ i ∧ i < σ 2 1 then σ 3 i.toNatClampNeg else -1)) - 48)), some (.int (i + 1))] [] σ K))) : gE 21 30 [some (.ref 1), some (.int n), some (.int i)] [] σ K :=
  gw_run (cy := 21) (cuts := [30]) (inl := []) (pf := gpdm) gpdm_ok 400 (by decide) h
theorem s21 {σ : gS} {K : gK} (hc : RK σ) (hK : K (some (.int (cNu σ))) σ) : gE 21 0 [some (.ref 1), none, none] [] σ K := by
  obtain ⟨⟨⟨hr, hd⟩, hE⟩, h4⟩ := hc
  obtain ⟨L, S, eL, eS, lL, lS, nL, nS⟩ := RW_n hr
  unfold cNu at hK
  refine w21 ⟨fun h => ?_, fun h => ⟨fun h2 => ?_, fun h2 => ?_⟩⟩
  · rw [if_neg (fun q => h q.1)] at hK; exact hK
  · rw [if_pos ⟨h, h2⟩, nS] at hK
    obtain ⟨L', E, eL', eE, lL', lE, nL', nE⟩ := RD_n (hd (by rw [h]; decide))
    have : L' = L := by rw [← nL', ← nL]
    subst this
    rw [nE] at hK
    have key : ∀ d k, S + k + d = max S E → gE 21 30 [some (.ref 1), some (.int (nuN (σ 3) S k)), some (.int (iN (S + k)))] [] σ K := by
      intro d
      induction d with
      | zero =>
        intro k hk
        have e : E - S = k := by omega
        rw [e] at hK
        refine v21 ⟨fun _ => hK, fun h => ?_⟩
        rw [eE] at h
        exact absurd ((iN_lt (by omega) (by omega)).mp h) (by omega)
      | succ d ih =>
        intro k hk
        refine v21 ⟨fun h => ?_, fun _ => ⟨hr.1.2, ?_⟩⟩
        · exfalso
          apply h
          rw [eE]
          exact (iN_lt (by omega) (by omega)).mpr (by omega)
        · rw [eL, cBy_e2 lL (by omega), iN_one]
          have eb : cBy (σ 3) L' (S + k) = σ 3 (S + k) := if_pos (by omega)
          rw [eb]
          exact ih (k + 1) (by omega)
    rw [eS]
    exact key (max S E - S) 0 (by omega)
  · rw [if_neg (fun q => q.2 h2)] at hK; exact hK
noncomputable def f21 : gD := fun Lv σ => match Lv with
  | [some (.ref q0), none, none] => cond (Nat.beq q0 1) (some (some (RK σ), some (.int (cNu σ)), σ)) none
  | _ => none
theorem ok21 : gFok 21 f21 := by
  intro Lv σ q h hc K hK
  unfold f21 at h
  split at h
  · rename_i q0
    obtain ⟨hb, h⟩ := c_no h
    have hb0 := hb
    have e0 := b_eq hb0
    subst e0
    cases h
    exact s21 (hc _ rfl) hK
  · cases h
set_option maxRecDepth 20000 in
theorem w22 {σ : gS} {K : gK} {c : Int32} (h : ((¬ (σ 1 5) = 0 → ((1 : Int32) = 0 ∨ (1 : Int32) = 1) ∧ ((¬ ((gup σ 1 5 1) 1 5) = 0 → K none (gup σ 1 5 1)) ∧ (((gup σ 1 5 1) 1 5) = 0 → (RD (gup σ 1 5 1)) ∧ K none (cTok (gup σ 1 5 1))))) ∧ ((σ 1 5) = 0 → ((¬ c = 0 → ((0 : Int32) = 0 ∨ (0 : Int32) = 1) ∧ ((¬ ((gup σ 1 5 0) 1 5) = 0 → K none (gup σ 1 5 0)) ∧ (((gup σ 1 5 0) 1 5) = 0 → (RD (gup σ 1 5 0)) ∧ K none (cTok (gup σ 1 5 0))))) ∧ (c = 0 → ((1 : Int32) = 0 ∨ (1 : Int32) = 1) ∧ ((¬ ((gup σ 1 5 1) 1 5) = 0 → K none (gup σ 1 5 1)) ∧ (((gup σ 1 5 1) 1 5) = 0 → (RD (gup σ 1 5 1)) ∧ K none (cTok (gup σ 1 5 1))))))))) : gE 22 0 [some (.ref 1), some (.int c)] [] σ K :=
  gw_run (cy := 22) (cuts := []) (inl := []) (pf := gpdm) gpdm_ok 400 (by decide) h
theorem s22 {σ : gS} {K : gK} {c : Int32} (hc : ¬ c = 0 → RD σ) (hK : K none (cPs σ c)) : gE 22 0 [some (.ref 1), some (.int c)] [] σ K := by
  unfold cPs at hK
  refine w22 ?_
  have g1 : gup σ 1 5 1 1 5 = 1 := gup_at _ _ _
  have g0 : gup σ 1 5 0 1 5 = 0 := gup_at _ _ _
  rw [g1, g0]
  refine ⟨fun h => ⟨Or.inr rfl, fun _ => ?_, fun q => absurd q (by decide)⟩, fun h => ⟨fun h2 => ⟨Or.inl rfl, fun q => absurd rfl q, fun _ => ?_⟩, fun h2 => ⟨Or.inr rfl, fun _ => ?_, fun q => absurd q (by decide)⟩⟩⟩
  · rw [if_neg (fun q => h q.1)] at hK; exact hK
  · rw [if_pos ⟨h, h2⟩] at hK
    rw [gup_id h]
    exact ⟨hc h2, hK⟩
  · rw [if_neg (fun q => q.2 h2)] at hK; exact hK
noncomputable def f22 : gD := fun Lv σ => match Lv with
  | [some (.ref q0), some (.int c)] => cond (Nat.beq q0 1) (some (some (¬ c = 0 → RD σ), none, cPs σ c)) none
  | _ => none
theorem ok22 : gFok 22 f22 := by
  intro Lv σ q h hc K hK
  unfold f22 at h
  split at h
  · rename_i q0 c
    obtain ⟨hb, h⟩ := c_no h
    have hb0 := hb
    have e0 := b_eq hb0
    subst e0
    cases h
    exact s22 (hc _ rfl) hK
  · cases h
noncomputable def gpdn_l : List (Nat × gD) := (21, f21) :: (22, f22) :: gpdm_l
noncomputable def gpdn : gP := gpl0 gpdn_l
theorem gpdn_ok : gPok gpdn := gpl0_cons ok21 (gpl0_cons ok22 (gpdm_ok))
set_option maxRecDepth 20000 in
theorem w23_1000001 {σ : gS} {K : gK} (h : (RW σ) ∧ (¬ (bI (cWd σ (jW 1000001))) = 0 → RD σ) ∧ K none (cPs σ (bI (cWd σ (jW 1000001))))) : gE 23 0 [some (.ref 1), some (.ref 1000001)] [] σ K :=
  gw_run (cy := 23) (cuts := []) (inl := []) (pf := gpdn) gpdn_ok 400 (by decide) h
theorem s23_1000001 {σ : gS} {K : gK} (hc : RK σ) (hK : K none (cPs σ (bI (cWd σ (jW 1000001))))) : gE 23 0 [some (.ref 1), some (.ref 1000001)] [] σ K := by
  refine w23_1000001 ⟨hc.1.1.1, fun h => hc.1.1.2 ?_, hK⟩
  have q : cWd σ (jW 1000001) := Decidable.not_not.mp (fun q => h (bI_0.mpr q))
  rw [q.1]
  decide
set_option maxRecDepth 20000 in
theorem w23_1000002 {σ : gS} {K : gK} (h : (RW σ) ∧ (¬ (bI (cWd σ (jW 1000002))) = 0 → RD σ) ∧ K none (cPs σ (bI (cWd σ (jW 1000002))))) : gE 23 0 [some (.ref 1), some (.ref 1000002)] [] σ K :=
  gw_run (cy := 23) (cuts := []) (inl := []) (pf := gpdn) gpdn_ok 400 (by decide) h
theorem s23_1000002 {σ : gS} {K : gK} (hc : RK σ) (hK : K none (cPs σ (bI (cWd σ (jW 1000002))))) : gE 23 0 [some (.ref 1), some (.ref 1000002)] [] σ K := by
  refine w23_1000002 ⟨hc.1.1.1, fun h => hc.1.1.2 ?_, hK⟩
  have q : cWd σ (jW 1000002) := Decidable.not_not.mp (fun q => h (bI_0.mpr q))
  rw [q.1]
  decide
set_option maxRecDepth 20000 in
theorem w23_1000003 {σ : gS} {K : gK} (h : (RW σ) ∧ (¬ (bI (cWd σ (jW 1000003))) = 0 → RD σ) ∧ K none (cPs σ (bI (cWd σ (jW 1000003))))) : gE 23 0 [some (.ref 1), some (.ref 1000003)] [] σ K :=
  gw_run (cy := 23) (cuts := []) (inl := []) (pf := gpdn) gpdn_ok 400 (by decide) h
theorem s23_1000003 {σ : gS} {K : gK} (hc : RK σ) (hK : K none (cPs σ (bI (cWd σ (jW 1000003))))) : gE 23 0 [some (.ref 1), some (.ref 1000003)] [] σ K := by
  refine w23_1000003 ⟨hc.1.1.1, fun h => hc.1.1.2 ?_, hK⟩
  have q : cWd σ (jW 1000003) := Decidable.not_not.mp (fun q => h (bI_0.mpr q))
  rw [q.1]
  decide
set_option maxRecDepth 20000 in
theorem w23_1000004 {σ : gS} {K : gK} (h : (RW σ) ∧ (¬ (bI (cWd σ (jW 1000004))) = 0 → RD σ) ∧ K none (cPs σ (bI (cWd σ (jW 1000004))))) : gE 23 0 [some (.ref 1), some (.ref 1000004)] [] σ K :=
  gw_run (cy := 23) (cuts := []) (inl := []) (pf := gpdn) gpdn_ok 400 (by decide) h
theorem s23_1000004 {σ : gS} {K : gK} (hc : RK σ) (hK : K none (cPs σ (bI (cWd σ (jW 1000004))))) : gE 23 0 [some (.ref 1), some (.ref 1000004)] [] σ K := by
  refine w23_1000004 ⟨hc.1.1.1, fun h => hc.1.1.2 ?_, hK⟩
  have q : cWd σ (jW 1000004) := Decidable.not_not.mp (fun q => h (bI_0.mpr q))
  rw [q.1]
  decide
set_option maxRecDepth 20000 in
theorem w23_1000005 {σ : gS} {K : gK} (h : (RW σ) ∧ (¬ (bI (cWd σ (jW 1000005))) = 0 → RD σ) ∧ K none (cPs σ (bI (cWd σ (jW 1000005))))) : gE 23 0 [some (.ref 1), some (.ref 1000005)] [] σ K :=
  gw_run (cy := 23) (cuts := []) (inl := []) (pf := gpdn) gpdn_ok 400 (by decide) h
theorem s23_1000005 {σ : gS} {K : gK} (hc : RK σ) (hK : K none (cPs σ (bI (cWd σ (jW 1000005))))) : gE 23 0 [some (.ref 1), some (.ref 1000005)] [] σ K := by
  refine w23_1000005 ⟨hc.1.1.1, fun h => hc.1.1.2 ?_, hK⟩
  have q : cWd σ (jW 1000005) := Decidable.not_not.mp (fun q => h (bI_0.mpr q))
  rw [q.1]
  decide
set_option maxRecDepth 20000 in
theorem w23_1000006 {σ : gS} {K : gK} (h : (RW σ) ∧ (¬ (bI (cWd σ (jW 1000006))) = 0 → RD σ) ∧ K none (cPs σ (bI (cWd σ (jW 1000006))))) : gE 23 0 [some (.ref 1), some (.ref 1000006)] [] σ K :=
  gw_run (cy := 23) (cuts := []) (inl := []) (pf := gpdn) gpdn_ok 400 (by decide) h
theorem s23_1000006 {σ : gS} {K : gK} (hc : RK σ) (hK : K none (cPs σ (bI (cWd σ (jW 1000006))))) : gE 23 0 [some (.ref 1), some (.ref 1000006)] [] σ K := by
  refine w23_1000006 ⟨hc.1.1.1, fun h => hc.1.1.2 ?_, hK⟩
  have q : cWd σ (jW 1000006) := Decidable.not_not.mp (fun q => h (bI_0.mpr q))
  rw [q.1]
  decide
set_option maxRecDepth 20000 in
theorem w23_1000007 {σ : gS} {K : gK} (h : (RW σ) ∧ (¬ (bI (cWd σ (jW 1000007))) = 0 → RD σ) ∧ K none (cPs σ (bI (cWd σ (jW 1000007))))) : gE 23 0 [some (.ref 1), some (.ref 1000007)] [] σ K :=
  gw_run (cy := 23) (cuts := []) (inl := []) (pf := gpdn) gpdn_ok 400 (by decide) h
theorem s23_1000007 {σ : gS} {K : gK} (hc : RK σ) (hK : K none (cPs σ (bI (cWd σ (jW 1000007))))) : gE 23 0 [some (.ref 1), some (.ref 1000007)] [] σ K := by
  refine w23_1000007 ⟨hc.1.1.1, fun h => hc.1.1.2 ?_, hK⟩
  have q : cWd σ (jW 1000007) := Decidable.not_not.mp (fun q => h (bI_0.mpr q))
  rw [q.1]
  decide
set_option maxRecDepth 20000 in
theorem w23_1000008 {σ : gS} {K : gK} (h : (RW σ) ∧ (¬ (bI (cWd σ (jW 1000008))) = 0 → RD σ) ∧ K none (cPs σ (bI (cWd σ (jW 1000008))))) : gE 23 0 [some (.ref 1), some (.ref 1000008)] [] σ K :=
  gw_run (cy := 23) (cuts := []) (inl := []) (pf := gpdn) gpdn_ok 400 (by decide) h
theorem s23_1000008 {σ : gS} {K : gK} (hc : RK σ) (hK : K none (cPs σ (bI (cWd σ (jW 1000008))))) : gE 23 0 [some (.ref 1), some (.ref 1000008)] [] σ K := by
  refine w23_1000008 ⟨hc.1.1.1, fun h => hc.1.1.2 ?_, hK⟩
  have q : cWd σ (jW 1000008) := Decidable.not_not.mp (fun q => h (bI_0.mpr q))
  rw [q.1]
  decide
set_option maxRecDepth 20000 in
theorem w23_1000009 {σ : gS} {K : gK} (h : (RW σ) ∧ (¬ (bI (cWd σ (jW 1000009))) = 0 → RD σ) ∧ K none (cPs σ (bI (cWd σ (jW 1000009))))) : gE 23 0 [some (.ref 1), some (.ref 1000009)] [] σ K :=
  gw_run (cy := 23) (cuts := []) (inl := []) (pf := gpdn) gpdn_ok 400 (by decide) h
theorem s23_1000009 {σ : gS} {K : gK} (hc : RK σ) (hK : K none (cPs σ (bI (cWd σ (jW 1000009))))) : gE 23 0 [some (.ref 1), some (.ref 1000009)] [] σ K := by
  refine w23_1000009 ⟨hc.1.1.1, fun h => hc.1.1.2 ?_, hK⟩
  have q : cWd σ (jW 1000009) := Decidable.not_not.mp (fun q => h (bI_0.mpr q))
  rw [q.1]
  decide
set_option maxRecDepth 20000 in
theorem w23_1000010 {σ : gS} {K : gK} (h : (RW σ) ∧ (¬ (bI (cWd σ (jW 1000010))) = 0 → RD σ) ∧ K none (cPs σ (bI (cWd σ (jW 1000010))))) : gE 23 0 [some (.ref 1), some (.ref 1000010)] [] σ K :=
  gw_run (cy := 23) (cuts := []) (inl := []) (pf := gpdn) gpdn_ok 400 (by decide) h
theorem s23_1000010 {σ : gS} {K : gK} (hc : RK σ) (hK : K none (cPs σ (bI (cWd σ (jW 1000010))))) : gE 23 0 [some (.ref 1), some (.ref 1000010)] [] σ K := by
  refine w23_1000010 ⟨hc.1.1.1, fun h => hc.1.1.2 ?_, hK⟩
  have q : cWd σ (jW 1000010) := Decidable.not_not.mp (fun q => h (bI_0.mpr q))
  rw [q.1]
  decide
noncomputable def f23 : gD := fun Lv σ => match Lv with
  | [some (.ref q0), some (.ref p)] => cond ((Nat.beq p 1000001 || Nat.beq p 1000002 || Nat.beq p 1000003 || Nat.beq p 1000004 || Nat.beq p 1000005 || Nat.beq p 1000006 || Nat.beq p 1000007 || Nat.beq p 1000008 || Nat.beq p 1000009 || Nat.beq p 1000010) && (Nat.beq q0 1)) (some (some (RK σ), none, cPs σ (bI (cWd σ (jW p))))) none
  | _ => none
theorem ok23 : gFok 23 f23 := by
  intro Lv σ q h hc K hK
  unfold f23 at h
  split at h
  · rename_i q0 p
    obtain ⟨hb, h⟩ := c_no h
    obtain ⟨hc1, hb1⟩ := s_and hb
    have hb0 := hc1
    have e0 := b_eq hb1
    subst e0
    rcases s_or hb0 with hb0 | hb0
    · rcases s_or hb0 with hb0 | hb0
      · rcases s_or hb0 with hb0 | hb0
        · rcases s_or hb0 with hb0 | hb0
          · rcases s_or hb0 with hb0 | hb0
            · rcases s_or hb0 with hb0 | hb0
              · rcases s_or hb0 with hb0 | hb0
                · rcases s_or hb0 with hb0 | hb0
                  · rcases s_or hb0 with hb0 | hb0
                    · have e := b_eq hb0
                      subst e
                      cases h
                      exact s23_1000001 (hc _ rfl) hK
                    · have e := b_eq hb0
                      subst e
                      cases h
                      exact s23_1000002 (hc _ rfl) hK
                  · have e := b_eq hb0
                    subst e
                    cases h
                    exact s23_1000003 (hc _ rfl) hK
                · have e := b_eq hb0
                  subst e
                  cases h
                  exact s23_1000004 (hc _ rfl) hK
              · have e := b_eq hb0
                subst e
                cases h
                exact s23_1000005 (hc _ rfl) hK
            · have e := b_eq hb0
              subst e
              cases h
              exact s23_1000006 (hc _ rfl) hK
          · have e := b_eq hb0
            subst e
            cases h
            exact s23_1000007 (hc _ rfl) hK
        · have e := b_eq hb0
          subst e
          cases h
          exact s23_1000008 (hc _ rfl) hK
      · have e := b_eq hb0
        subst e
        cases h
        exact s23_1000009 (hc _ rfl) hK
    · have e := b_eq hb0
      subst e
      cases h
      exact s23_1000010 (hc _ rfl) hK
  · cases h
set_option maxRecDepth 20000 in
theorem w24_1000001 {σ : gS} {K : gK} (h : ((¬ (σ 1 5) = 0 → (((0 : Int32) = 0 → ((0 : Int32) = 0 ∨ (0 : Int32) = 1) ∧ K (some (.int 0)) σ) ∧ (¬ (0 : Int32) = 0 → (RD σ) ∧ ((0 : Int32) = 0 ∨ (0 : Int32) = 1) ∧ K (some (.int 0)) (cTok σ)))) ∧ ((σ 1 5) = 0 → (RW σ) ∧ (((bI (cWd σ (jW 1000001))) = 0 → (((0 : Int32) = 0 → ((0 : Int32) = 0 ∨ (0 : Int32) = 1) ∧ K (some (.int 0)) σ) ∧ (¬ (0 : Int32) = 0 → (RD σ) ∧ ((0 : Int32) = 0 ∨ (0 : Int32) = 1) ∧ K (some (.int 0)) (cTok σ)))) ∧ (¬ (bI (cWd σ (jW 1000001))) = 0 → (((1 : Int32) = 0 → ((1 : Int32) = 0 ∨ (1 : Int32) = 1) ∧ K (some (.int 1)) σ) ∧ (¬ (1 : Int32) = 0 → (RD σ) ∧ ((1 : Int32) = 0 ∨ (1 : Int32) = 1) ∧ K (some (.int 1)) (cTok σ)))))))) : gE 24 0 [some (.ref 1), some (.ref 1000001), none] [] σ K :=
  gw_run (cy := 24) (cuts := []) (inl := []) (pf := gpdn) gpdn_ok 400 (by decide) h
theorem s24_1000001 {σ : gS} {K : gK} (hc : RK σ) (hK : K (some (.int (bI (σ 1 5 = 0 ∧ cWd σ (jW 1000001))))) (if σ 1 5 = 0 ∧ cWd σ (jW 1000001) then cTok σ else σ)) : gE 24 0 [some (.ref 1), some (.ref 1000001), none] [] σ K := by
  refine w24_1000001 ⟨fun h => ⟨fun _ => ⟨Or.inl rfl, ?_⟩, fun q => absurd rfl q⟩, fun h => ⟨hc.1.1.1, fun h2 => ⟨fun _ => ⟨Or.inl rfl, ?_⟩, fun q => absurd rfl q⟩, fun h2 => ⟨fun q => absurd q (by decide), fun _ => ⟨hc.1.1.2 ?_, Or.inr rfl, ?_⟩⟩⟩⟩
  · rw [if_neg (fun q => h q.1), bI_n (fun q => h q.1)] at hK; exact hK
  · have h2 := bI_0.mp h2
    rw [if_neg (fun q => h2 q.2), bI_n (fun q => h2 q.2)] at hK; exact hK
  · have q : cWd σ (jW 1000001) := Decidable.not_not.mp (fun q => h2 (bI_0.mpr q))
    rw [q.1]
    decide
  · have q : cWd σ (jW 1000001) := Decidable.not_not.mp (fun q => h2 (bI_0.mpr q))
    rw [if_pos ⟨h, q⟩, bI_y ⟨h, q⟩] at hK; exact hK
set_option maxRecDepth 20000 in
theorem w24_1000002 {σ : gS} {K : gK} (h : ((¬ (σ 1 5) = 0 → (((0 : Int32) = 0 → ((0 : Int32) = 0 ∨ (0 : Int32) = 1) ∧ K (some (.int 0)) σ) ∧ (¬ (0 : Int32) = 0 → (RD σ) ∧ ((0 : Int32) = 0 ∨ (0 : Int32) = 1) ∧ K (some (.int 0)) (cTok σ)))) ∧ ((σ 1 5) = 0 → (RW σ) ∧ (((bI (cWd σ (jW 1000002))) = 0 → (((0 : Int32) = 0 → ((0 : Int32) = 0 ∨ (0 : Int32) = 1) ∧ K (some (.int 0)) σ) ∧ (¬ (0 : Int32) = 0 → (RD σ) ∧ ((0 : Int32) = 0 ∨ (0 : Int32) = 1) ∧ K (some (.int 0)) (cTok σ)))) ∧ (¬ (bI (cWd σ (jW 1000002))) = 0 → (((1 : Int32) = 0 → ((1 : Int32) = 0 ∨ (1 : Int32) = 1) ∧ K (some (.int 1)) σ) ∧ (¬ (1 : Int32) = 0 → (RD σ) ∧ ((1 : Int32) = 0 ∨ (1 : Int32) = 1) ∧ K (some (.int 1)) (cTok σ)))))))) : gE 24 0 [some (.ref 1), some (.ref 1000002), none] [] σ K :=
  gw_run (cy := 24) (cuts := []) (inl := []) (pf := gpdn) gpdn_ok 400 (by decide) h
theorem s24_1000002 {σ : gS} {K : gK} (hc : RK σ) (hK : K (some (.int (bI (σ 1 5 = 0 ∧ cWd σ (jW 1000002))))) (if σ 1 5 = 0 ∧ cWd σ (jW 1000002) then cTok σ else σ)) : gE 24 0 [some (.ref 1), some (.ref 1000002), none] [] σ K := by
  refine w24_1000002 ⟨fun h => ⟨fun _ => ⟨Or.inl rfl, ?_⟩, fun q => absurd rfl q⟩, fun h => ⟨hc.1.1.1, fun h2 => ⟨fun _ => ⟨Or.inl rfl, ?_⟩, fun q => absurd rfl q⟩, fun h2 => ⟨fun q => absurd q (by decide), fun _ => ⟨hc.1.1.2 ?_, Or.inr rfl, ?_⟩⟩⟩⟩
  · rw [if_neg (fun q => h q.1), bI_n (fun q => h q.1)] at hK; exact hK
  · have h2 := bI_0.mp h2
    rw [if_neg (fun q => h2 q.2), bI_n (fun q => h2 q.2)] at hK; exact hK
  · have q : cWd σ (jW 1000002) := Decidable.not_not.mp (fun q => h2 (bI_0.mpr q))
    rw [q.1]
    decide
  · have q : cWd σ (jW 1000002) := Decidable.not_not.mp (fun q => h2 (bI_0.mpr q))
    rw [if_pos ⟨h, q⟩, bI_y ⟨h, q⟩] at hK; exact hK
set_option maxRecDepth 20000 in
theorem w24_1000003 {σ : gS} {K : gK} (h : ((¬ (σ 1 5) = 0 → (((0 : Int32) = 0 → ((0 : Int32) = 0 ∨ (0 : Int32) = 1) ∧ K (some (.int 0)) σ) ∧ (¬ (0 : Int32) = 0 → (RD σ) ∧ ((0 : Int32) = 0 ∨ (0 : Int32) = 1) ∧ K (some (.int 0)) (cTok σ)))) ∧ ((σ 1 5) = 0 → (RW σ) ∧ (((bI (cWd σ (jW 1000003))) = 0 → (((0 : Int32) = 0 → ((0 : Int32) = 0 ∨ (0 : Int32) = 1) ∧ K (some (.int 0)) σ) ∧ (¬ (0 : Int32) = 0 → (RD σ) ∧ ((0 : Int32) = 0 ∨ (0 : Int32) = 1) ∧ K (some (.int 0)) (cTok σ)))) ∧ (¬ (bI (cWd σ (jW 1000003))) = 0 → (((1 : Int32) = 0 → ((1 : Int32) = 0 ∨ (1 : Int32) = 1) ∧ K (some (.int 1)) σ) ∧ (¬ (1 : Int32) = 0 → (RD σ) ∧ ((1 : Int32) = 0 ∨ (1 : Int32) = 1) ∧ K (some (.int 1)) (cTok σ)))))))) : gE 24 0 [some (.ref 1), some (.ref 1000003), none] [] σ K :=
  gw_run (cy := 24) (cuts := []) (inl := []) (pf := gpdn) gpdn_ok 400 (by decide) h
theorem s24_1000003 {σ : gS} {K : gK} (hc : RK σ) (hK : K (some (.int (bI (σ 1 5 = 0 ∧ cWd σ (jW 1000003))))) (if σ 1 5 = 0 ∧ cWd σ (jW 1000003) then cTok σ else σ)) : gE 24 0 [some (.ref 1), some (.ref 1000003), none] [] σ K := by
  refine w24_1000003 ⟨fun h => ⟨fun _ => ⟨Or.inl rfl, ?_⟩, fun q => absurd rfl q⟩, fun h => ⟨hc.1.1.1, fun h2 => ⟨fun _ => ⟨Or.inl rfl, ?_⟩, fun q => absurd rfl q⟩, fun h2 => ⟨fun q => absurd q (by decide), fun _ => ⟨hc.1.1.2 ?_, Or.inr rfl, ?_⟩⟩⟩⟩
  · rw [if_neg (fun q => h q.1), bI_n (fun q => h q.1)] at hK; exact hK
  · have h2 := bI_0.mp h2
    rw [if_neg (fun q => h2 q.2), bI_n (fun q => h2 q.2)] at hK; exact hK
  · have q : cWd σ (jW 1000003) := Decidable.not_not.mp (fun q => h2 (bI_0.mpr q))
    rw [q.1]
    decide
  · have q : cWd σ (jW 1000003) := Decidable.not_not.mp (fun q => h2 (bI_0.mpr q))
    rw [if_pos ⟨h, q⟩, bI_y ⟨h, q⟩] at hK; exact hK
set_option maxRecDepth 20000 in
theorem w24_1000004 {σ : gS} {K : gK} (h : ((¬ (σ 1 5) = 0 → (((0 : Int32) = 0 → ((0 : Int32) = 0 ∨ (0 : Int32) = 1) ∧ K (some (.int 0)) σ) ∧ (¬ (0 : Int32) = 0 → (RD σ) ∧ ((0 : Int32) = 0 ∨ (0 : Int32) = 1) ∧ K (some (.int 0)) (cTok σ)))) ∧ ((σ 1 5) = 0 → (RW σ) ∧ (((bI (cWd σ (jW 1000004))) = 0 → (((0 : Int32) = 0 → ((0 : Int32) = 0 ∨ (0 : Int32) = 1) ∧ K (some (.int 0)) σ) ∧ (¬ (0 : Int32) = 0 → (RD σ) ∧ ((0 : Int32) = 0 ∨ (0 : Int32) = 1) ∧ K (some (.int 0)) (cTok σ)))) ∧ (¬ (bI (cWd σ (jW 1000004))) = 0 → (((1 : Int32) = 0 → ((1 : Int32) = 0 ∨ (1 : Int32) = 1) ∧ K (some (.int 1)) σ) ∧ (¬ (1 : Int32) = 0 → (RD σ) ∧ ((1 : Int32) = 0 ∨ (1 : Int32) = 1) ∧ K (some (.int 1)) (cTok σ)))))))) : gE 24 0 [some (.ref 1), some (.ref 1000004), none] [] σ K :=
  gw_run (cy := 24) (cuts := []) (inl := []) (pf := gpdn) gpdn_ok 400 (by decide) h
theorem s24_1000004 {σ : gS} {K : gK} (hc : RK σ) (hK : K (some (.int (bI (σ 1 5 = 0 ∧ cWd σ (jW 1000004))))) (if σ 1 5 = 0 ∧ cWd σ (jW 1000004) then cTok σ else σ)) : gE 24 0 [some (.ref 1), some (.ref 1000004), none] [] σ K := by
  refine w24_1000004 ⟨fun h => ⟨fun _ => ⟨Or.inl rfl, ?_⟩, fun q => absurd rfl q⟩, fun h => ⟨hc.1.1.1, fun h2 => ⟨fun _ => ⟨Or.inl rfl, ?_⟩, fun q => absurd rfl q⟩, fun h2 => ⟨fun q => absurd q (by decide), fun _ => ⟨hc.1.1.2 ?_, Or.inr rfl, ?_⟩⟩⟩⟩
  · rw [if_neg (fun q => h q.1), bI_n (fun q => h q.1)] at hK; exact hK
  · have h2 := bI_0.mp h2
    rw [if_neg (fun q => h2 q.2), bI_n (fun q => h2 q.2)] at hK; exact hK
  · have q : cWd σ (jW 1000004) := Decidable.not_not.mp (fun q => h2 (bI_0.mpr q))
    rw [q.1]
    decide
  · have q : cWd σ (jW 1000004) := Decidable.not_not.mp (fun q => h2 (bI_0.mpr q))
    rw [if_pos ⟨h, q⟩, bI_y ⟨h, q⟩] at hK; exact hK
set_option maxRecDepth 20000 in
theorem w24_1000005 {σ : gS} {K : gK} (h : ((¬ (σ 1 5) = 0 → (((0 : Int32) = 0 → ((0 : Int32) = 0 ∨ (0 : Int32) = 1) ∧ K (some (.int 0)) σ) ∧ (¬ (0 : Int32) = 0 → (RD σ) ∧ ((0 : Int32) = 0 ∨ (0 : Int32) = 1) ∧ K (some (.int 0)) (cTok σ)))) ∧ ((σ 1 5) = 0 → (RW σ) ∧ (((bI (cWd σ (jW 1000005))) = 0 → (((0 : Int32) = 0 → ((0 : Int32) = 0 ∨ (0 : Int32) = 1) ∧ K (some (.int 0)) σ) ∧ (¬ (0 : Int32) = 0 → (RD σ) ∧ ((0 : Int32) = 0 ∨ (0 : Int32) = 1) ∧ K (some (.int 0)) (cTok σ)))) ∧ (¬ (bI (cWd σ (jW 1000005))) = 0 → (((1 : Int32) = 0 → ((1 : Int32) = 0 ∨ (1 : Int32) = 1) ∧ K (some (.int 1)) σ) ∧ (¬ (1 : Int32) = 0 → (RD σ) ∧ ((1 : Int32) = 0 ∨ (1 : Int32) = 1) ∧ K (some (.int 1)) (cTok σ)))))))) : gE 24 0 [some (.ref 1), some (.ref 1000005), none] [] σ K :=
  gw_run (cy := 24) (cuts := []) (inl := []) (pf := gpdn) gpdn_ok 400 (by decide) h
theorem s24_1000005 {σ : gS} {K : gK} (hc : RK σ) (hK : K (some (.int (bI (σ 1 5 = 0 ∧ cWd σ (jW 1000005))))) (if σ 1 5 = 0 ∧ cWd σ (jW 1000005) then cTok σ else σ)) : gE 24 0 [some (.ref 1), some (.ref 1000005), none] [] σ K := by
  refine w24_1000005 ⟨fun h => ⟨fun _ => ⟨Or.inl rfl, ?_⟩, fun q => absurd rfl q⟩, fun h => ⟨hc.1.1.1, fun h2 => ⟨fun _ => ⟨Or.inl rfl, ?_⟩, fun q => absurd rfl q⟩, fun h2 => ⟨fun q => absurd q (by decide), fun _ => ⟨hc.1.1.2 ?_, Or.inr rfl, ?_⟩⟩⟩⟩
  · rw [if_neg (fun q => h q.1), bI_n (fun q => h q.1)] at hK; exact hK
  · have h2 := bI_0.mp h2
    rw [if_neg (fun q => h2 q.2), bI_n (fun q => h2 q.2)] at hK; exact hK
  · have q : cWd σ (jW 1000005) := Decidable.not_not.mp (fun q => h2 (bI_0.mpr q))
    rw [q.1]
    decide
  · have q : cWd σ (jW 1000005) := Decidable.not_not.mp (fun q => h2 (bI_0.mpr q))
    rw [if_pos ⟨h, q⟩, bI_y ⟨h, q⟩] at hK; exact hK
set_option maxRecDepth 20000 in
theorem w24_1000006 {σ : gS} {K : gK} (h : ((¬ (σ 1 5) = 0 → (((0 : Int32) = 0 → ((0 : Int32) = 0 ∨ (0 : Int32) = 1) ∧ K (some (.int 0)) σ) ∧ (¬ (0 : Int32) = 0 → (RD σ) ∧ ((0 : Int32) = 0 ∨ (0 : Int32) = 1) ∧ K (some (.int 0)) (cTok σ)))) ∧ ((σ 1 5) = 0 → (RW σ) ∧ (((bI (cWd σ (jW 1000006))) = 0 → (((0 : Int32) = 0 → ((0 : Int32) = 0 ∨ (0 : Int32) = 1) ∧ K (some (.int 0)) σ) ∧ (¬ (0 : Int32) = 0 → (RD σ) ∧ ((0 : Int32) = 0 ∨ (0 : Int32) = 1) ∧ K (some (.int 0)) (cTok σ)))) ∧ (¬ (bI (cWd σ (jW 1000006))) = 0 → (((1 : Int32) = 0 → ((1 : Int32) = 0 ∨ (1 : Int32) = 1) ∧ K (some (.int 1)) σ) ∧ (¬ (1 : Int32) = 0 → (RD σ) ∧ ((1 : Int32) = 0 ∨ (1 : Int32) = 1) ∧ K (some (.int 1)) (cTok σ)))))))) : gE 24 0 [some (.ref 1), some (.ref 1000006), none] [] σ K :=
  gw_run (cy := 24) (cuts := []) (inl := []) (pf := gpdn) gpdn_ok 400 (by decide) h
theorem s24_1000006 {σ : gS} {K : gK} (hc : RK σ) (hK : K (some (.int (bI (σ 1 5 = 0 ∧ cWd σ (jW 1000006))))) (if σ 1 5 = 0 ∧ cWd σ (jW 1000006) then cTok σ else σ)) : gE 24 0 [some (.ref 1), some (.ref 1000006), none] [] σ K := by
  refine w24_1000006 ⟨fun h => ⟨fun _ => ⟨Or.inl rfl, ?_⟩, fun q => absurd rfl q⟩, fun h => ⟨hc.1.1.1, fun h2 => ⟨fun _ => ⟨Or.inl rfl, ?_⟩, fun q => absurd rfl q⟩, fun h2 => ⟨fun q => absurd q (by decide), fun _ => ⟨hc.1.1.2 ?_, Or.inr rfl, ?_⟩⟩⟩⟩
  · rw [if_neg (fun q => h q.1), bI_n (fun q => h q.1)] at hK; exact hK
  · have h2 := bI_0.mp h2
    rw [if_neg (fun q => h2 q.2), bI_n (fun q => h2 q.2)] at hK; exact hK
  · have q : cWd σ (jW 1000006) := Decidable.not_not.mp (fun q => h2 (bI_0.mpr q))
    rw [q.1]
    decide
  · have q : cWd σ (jW 1000006) := Decidable.not_not.mp (fun q => h2 (bI_0.mpr q))
    rw [if_pos ⟨h, q⟩, bI_y ⟨h, q⟩] at hK; exact hK
set_option maxRecDepth 20000 in
theorem w24_1000007 {σ : gS} {K : gK} (h : ((¬ (σ 1 5) = 0 → (((0 : Int32) = 0 → ((0 : Int32) = 0 ∨ (0 : Int32) = 1) ∧ K (some (.int 0)) σ) ∧ (¬ (0 : Int32) = 0 → (RD σ) ∧ ((0 : Int32) = 0 ∨ (0 : Int32) = 1) ∧ K (some (.int 0)) (cTok σ)))) ∧ ((σ 1 5) = 0 → (RW σ) ∧ (((bI (cWd σ (jW 1000007))) = 0 → (((0 : Int32) = 0 → ((0 : Int32) = 0 ∨ (0 : Int32) = 1) ∧ K (some (.int 0)) σ) ∧ (¬ (0 : Int32) = 0 → (RD σ) ∧ ((0 : Int32) = 0 ∨ (0 : Int32) = 1) ∧ K (some (.int 0)) (cTok σ)))) ∧ (¬ (bI (cWd σ (jW 1000007))) = 0 → (((1 : Int32) = 0 → ((1 : Int32) = 0 ∨ (1 : Int32) = 1) ∧ K (some (.int 1)) σ) ∧ (¬ (1 : Int32) = 0 → (RD σ) ∧ ((1 : Int32) = 0 ∨ (1 : Int32) = 1) ∧ K (some (.int 1)) (cTok σ)))))))) : gE 24 0 [some (.ref 1), some (.ref 1000007), none] [] σ K :=
  gw_run (cy := 24) (cuts := []) (inl := []) (pf := gpdn) gpdn_ok 400 (by decide) h
theorem s24_1000007 {σ : gS} {K : gK} (hc : RK σ) (hK : K (some (.int (bI (σ 1 5 = 0 ∧ cWd σ (jW 1000007))))) (if σ 1 5 = 0 ∧ cWd σ (jW 1000007) then cTok σ else σ)) : gE 24 0 [some (.ref 1), some (.ref 1000007), none] [] σ K := by
  refine w24_1000007 ⟨fun h => ⟨fun _ => ⟨Or.inl rfl, ?_⟩, fun q => absurd rfl q⟩, fun h => ⟨hc.1.1.1, fun h2 => ⟨fun _ => ⟨Or.inl rfl, ?_⟩, fun q => absurd rfl q⟩, fun h2 => ⟨fun q => absurd q (by decide), fun _ => ⟨hc.1.1.2 ?_, Or.inr rfl, ?_⟩⟩⟩⟩
  · rw [if_neg (fun q => h q.1), bI_n (fun q => h q.1)] at hK; exact hK
  · have h2 := bI_0.mp h2
    rw [if_neg (fun q => h2 q.2), bI_n (fun q => h2 q.2)] at hK; exact hK
  · have q : cWd σ (jW 1000007) := Decidable.not_not.mp (fun q => h2 (bI_0.mpr q))
    rw [q.1]
    decide
  · have q : cWd σ (jW 1000007) := Decidable.not_not.mp (fun q => h2 (bI_0.mpr q))
    rw [if_pos ⟨h, q⟩, bI_y ⟨h, q⟩] at hK; exact hK
set_option maxRecDepth 20000 in
theorem w24_1000008 {σ : gS} {K : gK} (h : ((¬ (σ 1 5) = 0 → (((0 : Int32) = 0 → ((0 : Int32) = 0 ∨ (0 : Int32) = 1) ∧ K (some (.int 0)) σ) ∧ (¬ (0 : Int32) = 0 → (RD σ) ∧ ((0 : Int32) = 0 ∨ (0 : Int32) = 1) ∧ K (some (.int 0)) (cTok σ)))) ∧ ((σ 1 5) = 0 → (RW σ) ∧ (((bI (cWd σ (jW 1000008))) = 0 → (((0 : Int32) = 0 → ((0 : Int32) = 0 ∨ (0 : Int32) = 1) ∧ K (some (.int 0)) σ) ∧ (¬ (0 : Int32) = 0 → (RD σ) ∧ ((0 : Int32) = 0 ∨ (0 : Int32) = 1) ∧ K (some (.int 0)) (cTok σ)))) ∧ (¬ (bI (cWd σ (jW 1000008))) = 0 → (((1 : Int32) = 0 → ((1 : Int32) = 0 ∨ (1 : Int32) = 1) ∧ K (some (.int 1)) σ) ∧ (¬ (1 : Int32) = 0 → (RD σ) ∧ ((1 : Int32) = 0 ∨ (1 : Int32) = 1) ∧ K (some (.int 1)) (cTok σ)))))))) : gE 24 0 [some (.ref 1), some (.ref 1000008), none] [] σ K :=
  gw_run (cy := 24) (cuts := []) (inl := []) (pf := gpdn) gpdn_ok 400 (by decide) h
theorem s24_1000008 {σ : gS} {K : gK} (hc : RK σ) (hK : K (some (.int (bI (σ 1 5 = 0 ∧ cWd σ (jW 1000008))))) (if σ 1 5 = 0 ∧ cWd σ (jW 1000008) then cTok σ else σ)) : gE 24 0 [some (.ref 1), some (.ref 1000008), none] [] σ K := by
  refine w24_1000008 ⟨fun h => ⟨fun _ => ⟨Or.inl rfl, ?_⟩, fun q => absurd rfl q⟩, fun h => ⟨hc.1.1.1, fun h2 => ⟨fun _ => ⟨Or.inl rfl, ?_⟩, fun q => absurd rfl q⟩, fun h2 => ⟨fun q => absurd q (by decide), fun _ => ⟨hc.1.1.2 ?_, Or.inr rfl, ?_⟩⟩⟩⟩
  · rw [if_neg (fun q => h q.1), bI_n (fun q => h q.1)] at hK; exact hK
  · have h2 := bI_0.mp h2
    rw [if_neg (fun q => h2 q.2), bI_n (fun q => h2 q.2)] at hK; exact hK
  · have q : cWd σ (jW 1000008) := Decidable.not_not.mp (fun q => h2 (bI_0.mpr q))
    rw [q.1]
    decide
  · have q : cWd σ (jW 1000008) := Decidable.not_not.mp (fun q => h2 (bI_0.mpr q))
    rw [if_pos ⟨h, q⟩, bI_y ⟨h, q⟩] at hK; exact hK
set_option maxRecDepth 20000 in
theorem w24_1000009 {σ : gS} {K : gK} (h : ((¬ (σ 1 5) = 0 → (((0 : Int32) = 0 → ((0 : Int32) = 0 ∨ (0 : Int32) = 1) ∧ K (some (.int 0)) σ) ∧ (¬ (0 : Int32) = 0 → (RD σ) ∧ ((0 : Int32) = 0 ∨ (0 : Int32) = 1) ∧ K (some (.int 0)) (cTok σ)))) ∧ ((σ 1 5) = 0 → (RW σ) ∧ (((bI (cWd σ (jW 1000009))) = 0 → (((0 : Int32) = 0 → ((0 : Int32) = 0 ∨ (0 : Int32) = 1) ∧ K (some (.int 0)) σ) ∧ (¬ (0 : Int32) = 0 → (RD σ) ∧ ((0 : Int32) = 0 ∨ (0 : Int32) = 1) ∧ K (some (.int 0)) (cTok σ)))) ∧ (¬ (bI (cWd σ (jW 1000009))) = 0 → (((1 : Int32) = 0 → ((1 : Int32) = 0 ∨ (1 : Int32) = 1) ∧ K (some (.int 1)) σ) ∧ (¬ (1 : Int32) = 0 → (RD σ) ∧ ((1 : Int32) = 0 ∨ (1 : Int32) = 1) ∧ K (some (.int 1)) (cTok σ)))))))) : gE 24 0 [some (.ref 1), some (.ref 1000009), none] [] σ K :=
  gw_run (cy := 24) (cuts := []) (inl := []) (pf := gpdn) gpdn_ok 400 (by decide) h
theorem s24_1000009 {σ : gS} {K : gK} (hc : RK σ) (hK : K (some (.int (bI (σ 1 5 = 0 ∧ cWd σ (jW 1000009))))) (if σ 1 5 = 0 ∧ cWd σ (jW 1000009) then cTok σ else σ)) : gE 24 0 [some (.ref 1), some (.ref 1000009), none] [] σ K := by
  refine w24_1000009 ⟨fun h => ⟨fun _ => ⟨Or.inl rfl, ?_⟩, fun q => absurd rfl q⟩, fun h => ⟨hc.1.1.1, fun h2 => ⟨fun _ => ⟨Or.inl rfl, ?_⟩, fun q => absurd rfl q⟩, fun h2 => ⟨fun q => absurd q (by decide), fun _ => ⟨hc.1.1.2 ?_, Or.inr rfl, ?_⟩⟩⟩⟩
  · rw [if_neg (fun q => h q.1), bI_n (fun q => h q.1)] at hK; exact hK
  · have h2 := bI_0.mp h2
    rw [if_neg (fun q => h2 q.2), bI_n (fun q => h2 q.2)] at hK; exact hK
  · have q : cWd σ (jW 1000009) := Decidable.not_not.mp (fun q => h2 (bI_0.mpr q))
    rw [q.1]
    decide
  · have q : cWd σ (jW 1000009) := Decidable.not_not.mp (fun q => h2 (bI_0.mpr q))
    rw [if_pos ⟨h, q⟩, bI_y ⟨h, q⟩] at hK; exact hK
set_option maxRecDepth 20000 in
theorem w24_1000010 {σ : gS} {K : gK} (h : ((¬ (σ 1 5) = 0 → (((0 : Int32) = 0 → ((0 : Int32) = 0 ∨ (0 : Int32) = 1) ∧ K (some (.int 0)) σ) ∧ (¬ (0 : Int32) = 0 → (RD σ) ∧ ((0 : Int32) = 0 ∨ (0 : Int32) = 1) ∧ K (some (.int 0)) (cTok σ)))) ∧ ((σ 1 5) = 0 → (RW σ) ∧ (((bI (cWd σ (jW 1000010))) = 0 → (((0 : Int32) = 0 → ((0 : Int32) = 0 ∨ (0 : Int32) = 1) ∧ K (some (.int 0)) σ) ∧ (¬ (0 : Int32) = 0 → (RD σ) ∧ ((0 : Int32) = 0 ∨ (0 : Int32) = 1) ∧ K (some (.int 0)) (cTok σ)))) ∧ (¬ (bI (cWd σ (jW 1000010))) = 0 → (((1 : Int32) = 0 → ((1 : Int32) = 0 ∨ (1 : Int32) = 1) ∧ K (some (.int 1)) σ) ∧ (¬ (1 : Int32) = 0 → (RD σ) ∧ ((1 : Int32) = 0 ∨ (1 : Int32) = 1) ∧ K (some (.int 1)) (cTok σ)))))))) : gE 24 0 [some (.ref 1), some (.ref 1000010), none] [] σ K :=
  gw_run (cy := 24) (cuts := []) (inl := []) (pf := gpdn) gpdn_ok 400 (by decide) h
theorem s24_1000010 {σ : gS} {K : gK} (hc : RK σ) (hK : K (some (.int (bI (σ 1 5 = 0 ∧ cWd σ (jW 1000010))))) (if σ 1 5 = 0 ∧ cWd σ (jW 1000010) then cTok σ else σ)) : gE 24 0 [some (.ref 1), some (.ref 1000010), none] [] σ K := by
  refine w24_1000010 ⟨fun h => ⟨fun _ => ⟨Or.inl rfl, ?_⟩, fun q => absurd rfl q⟩, fun h => ⟨hc.1.1.1, fun h2 => ⟨fun _ => ⟨Or.inl rfl, ?_⟩, fun q => absurd rfl q⟩, fun h2 => ⟨fun q => absurd q (by decide), fun _ => ⟨hc.1.1.2 ?_, Or.inr rfl, ?_⟩⟩⟩⟩
  · rw [if_neg (fun q => h q.1), bI_n (fun q => h q.1)] at hK; exact hK
  · have h2 := bI_0.mp h2
    rw [if_neg (fun q => h2 q.2), bI_n (fun q => h2 q.2)] at hK; exact hK
  · have q : cWd σ (jW 1000010) := Decidable.not_not.mp (fun q => h2 (bI_0.mpr q))
    rw [q.1]
    decide
  · have q : cWd σ (jW 1000010) := Decidable.not_not.mp (fun q => h2 (bI_0.mpr q))
    rw [if_pos ⟨h, q⟩, bI_y ⟨h, q⟩] at hK; exact hK
noncomputable def f24 : gD := fun Lv σ => match Lv with
  | [some (.ref q0), some (.ref p), none] => cond ((Nat.beq p 1000001 || Nat.beq p 1000002 || Nat.beq p 1000003 || Nat.beq p 1000004 || Nat.beq p 1000005 || Nat.beq p 1000006 || Nat.beq p 1000007 || Nat.beq p 1000008 || Nat.beq p 1000009 || Nat.beq p 1000010) && (Nat.beq q0 1)) (some (some (RK σ), some (.int (bI (σ 1 5 = 0 ∧ cWd σ (jW p)))), if σ 1 5 = 0 ∧ cWd σ (jW p) then cTok σ else σ)) none
  | _ => none
theorem ok24 : gFok 24 f24 := by
  intro Lv σ q h hc K hK
  unfold f24 at h
  split at h
  · rename_i q0 p
    obtain ⟨hb, h⟩ := c_no h
    obtain ⟨hc1, hb1⟩ := s_and hb
    have hb0 := hc1
    have e0 := b_eq hb1
    subst e0
    rcases s_or hb0 with hb0 | hb0
    · rcases s_or hb0 with hb0 | hb0
      · rcases s_or hb0 with hb0 | hb0
        · rcases s_or hb0 with hb0 | hb0
          · rcases s_or hb0 with hb0 | hb0
            · rcases s_or hb0 with hb0 | hb0
              · rcases s_or hb0 with hb0 | hb0
                · rcases s_or hb0 with hb0 | hb0
                  · rcases s_or hb0 with hb0 | hb0
                    · have e := b_eq hb0
                      subst e
                      cases h
                      exact s24_1000001 (hc _ rfl) hK
                    · have e := b_eq hb0
                      subst e
                      cases h
                      exact s24_1000002 (hc _ rfl) hK
                  · have e := b_eq hb0
                    subst e
                    cases h
                    exact s24_1000003 (hc _ rfl) hK
                · have e := b_eq hb0
                  subst e
                  cases h
                  exact s24_1000004 (hc _ rfl) hK
              · have e := b_eq hb0
                subst e
                cases h
                exact s24_1000005 (hc _ rfl) hK
            · have e := b_eq hb0
              subst e
              cases h
              exact s24_1000006 (hc _ rfl) hK
          · have e := b_eq hb0
            subst e
            cases h
            exact s24_1000007 (hc _ rfl) hK
        · have e := b_eq hb0
          subst e
          cases h
          exact s24_1000008 (hc _ rfl) hK
      · have e := b_eq hb0
        subst e
        cases h
        exact s24_1000009 (hc _ rfl) hK
    · have e := b_eq hb0
      subst e
      cases h
      exact s24_1000010 (hc _ rfl) hK
  · cases h
noncomputable def gpdo_l : List (Nat × gD) := (23, f23) :: (24, f24) :: gpdn_l
noncomputable def gpdo : gP := gpl0 gpdo_l
theorem gpdo_ok : gPok gpdo := gpl0_cons ok23 (gpl0_cons ok24 (gpdn_ok))
end
section
-- text 79
/-! THE CLASS: whole numbers, likes, seats, names -/
theorem cNu_k {σ : gS} (h : ¬ cNu σ = -1) : σ 1 4 = 3 := by
  unfold cNu at h
  by_cases q : σ 1 4 = 3 ∧ ¬ 2 < σ 1 3 - σ 1 2
  · exact q.1
  · rw [if_neg q] at h; exact absurd rfl h
def cInt (σ : gS) (a b : Int32) : gS := cPs σ (bI (a ≤ cNu σ ∧ cNu σ ≤ b))
theorem cInt_RK {σ : gS} {a b : Int32} (h : RK σ) (ha : 0 ≤ a) : RK (cInt σ a b) := by
  refine cPs_RK h (fun q => ?_)
  have q := Decidable.not_not.mp (fun z => q (bI_0.mpr z))
  have k : ¬ cNu σ = -1 := fun e => by
    have := q.1
    rw [e] at this
    exact absurd (Int32.le_trans ha this) (by decide)
  rw [cNu_k k]
  decide
set_option maxRecDepth 20000 in
theorem w25 {σ : gS} {K : gK} {a b : Int32} (h : (RK σ) ∧ (((cNu σ) < a → (¬ (0 : Int32) = 0 → RD σ) ∧ K (some (.int (cNu σ))) (cPs σ (0 : Int32))) ∧ (¬ (cNu σ) < a → ((b < (cNu σ) → (¬ (0 : Int32) = 0 → RD σ) ∧ K (some (.int (cNu σ))) (cPs σ (0 : Int32))) ∧ (¬ b < (cNu σ) → (¬ (1 : Int32) = 0 → RD σ) ∧ K (some (.int (cNu σ))) (cPs σ (1 : Int32))))))) : gE 25 0 [some (.ref 1), some (.int a), some (.int b), none] [] σ K :=
  gw_run (cy := 25) (cuts := []) (inl := []) (pf := gpdo) gpdo_ok 400 (by decide) h
theorem s25 {σ : gS} {K : gK} {a b : Int32} (hc : RK σ ∧ 0 ≤ a) (hK : K (some (.int (cNu σ))) (cInt σ a b)) : gE 25 0 [some (.ref 1), some (.int a), some (.int b), none] [] σ K := by
  obtain ⟨hr, ha⟩ := hc
  unfold cInt at hK
  refine w25 ⟨hr, fun h => ⟨fun q => absurd rfl q, ?_⟩, fun h => ⟨fun h2 => ⟨fun q => absurd rfl q, ?_⟩, fun h2 => ⟨fun _ => hr.1.1.2 ?_, ?_⟩⟩⟩
  · rw [bI_n (fun q => absurd h (Int32.not_lt.mpr q.1))] at hK; exact hK
  · rw [bI_n (fun q => absurd h2 (Int32.not_lt.mpr q.2))] at hK; exact hK
  · have k : ¬ cNu σ = -1 := fun e => by
      have := Int32.not_lt.mp h
      rw [e] at this
      exact absurd (Int32.le_trans ha this) (by decide)
    rw [cNu_k k]
    decide
  · rw [bI_y ⟨Int32.not_lt.mp h, Int32.not_lt.mp h2⟩] at hK; exact hK
noncomputable def f25 : gD := fun Lv σ => match Lv with
  | [some (.ref q0), some (.int a), some (.int b), none] => cond (Nat.beq q0 1) (some (some (RK σ ∧ 0 ≤ a), some (.int (cNu σ)), cInt σ a b)) none
  | _ => none
theorem ok25 : gFok 25 f25 := by
  intro Lv σ q h hc K hK
  unfold f25 at h
  split at h
  · rename_i q0 a b
    obtain ⟨hb, h⟩ := c_no h
    have hb0 := hb
    have e0 := b_eq hb0
    subst e0
    cases h
    exact s25 (hc _ rfl) hK
  · cases h
set_option maxRecDepth 20000 in
theorem w28 {σ : gS} {K : gK} (h : (RW σ ∧ (0 ≤ σ 1 3 ∧ σ 1 3 ≤ 1001)) ∧ (RW σ) ∧ (¬ (bI (cNm σ)) = 0 → RD σ) ∧ K (some (.int (cPk (σ 3) (σ 2 1).toNatClampNeg (σ 1 2).toNatClampNeg (min ((σ 1 3).toNatClampNeg - (σ 1 2).toNatClampNeg) 5)))) (cPs σ (bI (cNm σ)))) : gE 28 0 [some (.ref 1), none] [] σ K :=
  gw_run (cy := 28) (cuts := []) (inl := []) (pf := gpdo) gpdo_ok 400 (by decide) h
theorem s28 {σ : gS} {K : gK} (hc : RK σ) (hK : K (some (.int (cPk (σ 3) (σ 2 1).toNatClampNeg (σ 1 2).toNatClampNeg (min ((σ 1 3).toNatClampNeg - (σ 1 2).toNatClampNeg) 5)))) (cPs σ (bI (cNm σ)))) : gE 28 0 [some (.ref 1), none] [] σ K := by
  refine w28 ⟨⟨hc.1.1.1, hc.1.2⟩, hc.1.1.1, fun h => hc.1.1.2 ?_, hK⟩
  have q : cNm σ := Decidable.not_not.mp (fun q => h (bI_0.mpr q))
  rw [q.1]
  decide
noncomputable def f28 : gD := fun Lv σ => match Lv with
  | [some (.ref q0), none] => cond (Nat.beq q0 1) (some (some (RK σ), some (.int (cPk (σ 3) (σ 2 1).toNatClampNeg (σ 1 2).toNatClampNeg (min ((σ 1 3).toNatClampNeg - (σ 1 2).toNatClampNeg) 5))), cPs σ (bI (cNm σ)))) none
  | _ => none
theorem ok28 : gFok 28 f28 := by
  intro Lv σ q h hc K hK
  unfold f28 at h
  split at h
  · rename_i q0
    obtain ⟨hb, h⟩ := c_no h
    have hb0 := hb
    have e0 := b_eq hb0
    subst e0
    cases h
    exact s28 (hc _ rfl) hK
  · cases h
noncomputable def gpdp_l : List (Nat × gD) := (25, f25) :: (28, f28) :: gpdo_l
noncomputable def gpdp : gP := gpl0 gpdp_l
theorem gpdp_ok : gPok gpdp := gpl0_cons ok25 (gpl0_cons ok28 (gpdo_ok))
/-- the byte the token begins with -/
abbrev cB0 (σ : gS) : Int32 := cBy (σ 3) (σ 2 1).toNatClampNeg (σ 1 2).toNatClampNeg
theorem RK_sg {σ : gS} {c : Int32} (h : RK σ) (hb : cB0 σ = c) (hc : ¬ cKd c = 0) : ¬ σ 1 4 = 0 := by
  have e : σ 1 4 = cKd (cB0 σ) := h.2
  rw [e, hb]; exact hc
/-- a like is taken -/
def cLkH (σ : gS) : gS := cPs σ (bI (cB0 σ = 45 ∨ cB0 σ = 43))
def cLik (σ : gS) : Int32 := if cB0 σ = 45 then -(cNu (cLkH σ)) else cNu (cLkH σ)
theorem cLkH_RK {σ : gS} (h : RK σ) : RK (cLkH σ) := by
  refine cPs_RK h (fun q => ?_)
  have q := Decidable.not_not.mp (fun z => q (bI_0.mpr z))
  rcases q with q | q
  · exact RK_sg h q (by decide)
  · exact RK_sg h q (by decide)
set_option maxRecDepth 20000 in
theorem w26 {σ : gS} {K : gK} (h : (RW σ) ∧ ((¬ (bI (cBy (σ 3) (σ 2 1).toNatClampNeg (σ 1 2).toNatClampNeg = (45 : Int32))) = 0 → (¬ (1 : Int32) = 0 → RD σ) ∧ (RK (cPs σ (1 : Int32)) ∧ 0 ≤ (0 : Int32)) ∧ (((bI (cBy (σ 3) (σ 2 1).toNatClampNeg (σ 1 2).toNatClampNeg = (45 : Int32))) = 0 → K (some (.int (cNu (cPs σ (1 : Int32))))) (cInt (cPs σ (1 : Int32)) (0 : Int32) (9 : Int32))) ∧ (¬ (bI (cBy (σ 3) (σ 2 1).toNatClampNeg (σ 1 2).toNatClampNeg = (45 : Int32))) = 0 → K (some (.int (-(cNu (cPs σ (1 : Int32)))))) (cInt (cPs σ (1 : Int32)) (0 : Int32) (9 : Int32))))) ∧ ((bI (cBy (σ 3) (σ 2 1).toNatClampNeg (σ 1 2).toNatClampNeg = (45 : Int32))) = 0 → (RW σ) ∧ (((bI (cBy (σ 3) (σ 2 1).toNatClampNeg (σ 1 2).toNatClampNeg = (43 : Int32))) = 0 → (¬ (0 : Int32) = 0 → RD σ) ∧ (RK (cPs σ (0 : Int32)) ∧ 0 ≤ (0 : Int32)) ∧ (((bI (cBy (σ 3) (σ 2 1).toNatClampNeg (σ 1 2).toNatClampNeg = (45 : Int32))) = 0 → K (some (.int (cNu (cPs σ (0 : Int32))))) (cInt (cPs σ (0 : Int32)) (0 : Int32) (9 : Int32))) ∧ (¬ (bI (cBy (σ 3) (σ 2 1).toNatClampNeg (σ 1 2).toNatClampNeg = (45 : Int32))) = 0 → K (some (.int (-(cNu (cPs σ (0 : Int32)))))) (cInt (cPs σ (0 : Int32)) (0 : Int32) (9 : Int32))))) ∧ (¬ (bI (cBy (σ 3) (σ 2 1).toNatClampNeg (σ 1 2).toNatClampNeg = (43 : Int32))) = 0 → (¬ (1 : Int32) = 0 → RD σ) ∧ (RK (cPs σ (1 : Int32)) ∧ 0 ≤ (0 : Int32)) ∧ (((bI (cBy (σ 3) (σ 2 1).toNatClampNeg (σ 1 2).toNatClampNeg = (45 : Int32))) = 0 → K (some (.int (cNu (cPs σ (1 : Int32))))) (cInt (cPs σ (1 : Int32)) (0 : Int32) (9 : Int32))) ∧ (¬ (bI (cBy (σ 3) (σ 2 1).toNatClampNeg (σ 1 2).toNatClampNeg = (45 : Int32))) = 0 → K (some (.int (-(cNu (cPs σ (1 : Int32)))))) (cInt (cPs σ (1 : Int32)) (0 : Int32) (9 : Int32))))))))) : gE 26 0 [some (.ref 1), none, none] [] σ K :=
  gw_run (cy := 26) (cuts := []) (inl := []) (pf := gpdp) gpdp_ok 400 (by decide) h
theorem s26 {σ : gS} {K : gK} (hc : RK σ) (hK : K (some (.int (cLik σ))) (cInt (cLkH σ) 0 9)) : gE 26 0 [some (.ref 1), none, none] [] σ K := by
  have kL := cLkH_RK hc
  unfold cLik at hK
  have z0 : (0 : Int32) ≤ 0 := by decide
  refine w26 ⟨hc.1.1.1, fun h => ?_, fun h => ?_⟩
  · have hb : cB0 σ = 45 := Decidable.not_not.mp (fun q => h (bI_0.mpr q))
    have e : cLkH σ = cPs σ 1 := by unfold cLkH; rw [bI_y (Or.inl hb)]
    rw [e] at hK kL
    rw [if_pos hb] at hK
    refine ⟨fun _ => hc.1.1.2 (RK_sg hc hb (by decide)), ⟨kL, z0⟩, fun q => absurd q h, fun _ => hK⟩
  · have hb : ¬ cB0 σ = 45 := bI_0.mp h
    rw [if_neg hb] at hK
    refine ⟨hc.1.1.1, fun h2 => ?_, fun h2 => ?_⟩
    · have hb2 : ¬ cB0 σ = 43 := bI_0.mp h2
      have e : cLkH σ = cPs σ 0 := by unfold cLkH; rw [bI_n (fun q => q.elim hb hb2)]
      rw [e] at hK kL
      exact ⟨fun q => absurd rfl q, ⟨kL, z0⟩, fun _ => hK, fun q => absurd h q⟩
    · have hb2 : cB0 σ = 43 := Decidable.not_not.mp (fun q => h2 (bI_0.mpr q))
      have e : cLkH σ = cPs σ 1 := by unfold cLkH; rw [bI_y (Or.inr hb2)]
      rw [e] at hK kL
      exact ⟨fun _ => hc.1.1.2 (RK_sg hc hb2 (by decide)), ⟨kL, z0⟩, fun _ => hK, fun q => absurd h q⟩
noncomputable def f26 : gD := fun Lv σ => match Lv with
  | [some (.ref q0), none, none] => cond (Nat.beq q0 1) (some (some (RK σ), some (.int (cLik σ)), cInt (cLkH σ) 0 9)) none
  | _ => none
theorem ok26 : gFok 26 f26 := by
  intro Lv σ q h hc K hK
  unfold f26 at h
  split at h
  · rename_i q0
    obtain ⟨hb, h⟩ := c_no h
    have hb0 := hb
    have e0 := b_eq hb0
    subst e0
    cases h
    exact s26 (hc _ rfl) hK
  · cases h
noncomputable def gpdq_l : List (Nat × gD) := (26, f26) :: gpdp_l
noncomputable def gpdq : gP := gpl0 gpdq_l
theorem gpdq_ok : gPok gpdq := gpl0_cons ok26 (gpdp_ok)
-- text 80
/-! THE CLASS: a free seat, an empty train -/
/-- the seat told is free, or the reader is wrong -/
def cFs (σ : gS) : gS := if σ 1 5 = 0 ∧ fWho (cR σ 32) (cNu σ) = -2 then σ else gup σ 1 5 1
theorem cFs_RK {σ : gS} (h : RK σ) : RK (cFs σ) := by
  unfold cFs
  split
  · exact h
  · exact RK_w h
theorem cFs_ne {σ : gS} {q j : Nat} (h : ¬ (q = 1 ∧ j = 5)) : cFs σ q j = σ q j := by
  unfold cFs
  split
  · rfl
  · exact gup_ne h
set_option maxRecDepth 20000 in
theorem w27 {σ : gS} {K : gK} (h : ((¬ (σ 1 5) = 0 → ((1 : Int32) = 0 ∨ (1 : Int32) = 1) ∧ (RK (gup σ 1 5 1) ∧ 0 ≤ (0 : Int32)) ∧ K (some (.int (cNu (gup σ 1 5 1)))) (cInt (gup σ 1 5 1) (0 : Int32) (((gup σ 1 5 1) 32 4 * 4) - 1))) ∧ ((σ 1 5) = 0 → (RK σ) ∧ (0 ≤ σ 32 7 ∧ σ 32 7 ≤ 20) ∧ ((¬ (bI (fWho (cR σ 32) (cNu σ) = -2)) = 0 → ((0 : Int32) = 0 ∨ (0 : Int32) = 1) ∧ (RK (gup σ 1 5 0) ∧ 0 ≤ (0 : Int32)) ∧ K (some (.int (cNu (gup σ 1 5 0)))) (cInt (gup σ 1 5 0) (0 : Int32) (((gup σ 1 5 0) 32 4 * 4) - 1))) ∧ ((bI (fWho (cR σ 32) (cNu σ) = -2)) = 0 → ((1 : Int32) = 0 ∨ (1 : Int32) = 1) ∧ (RK (gup σ 1 5 1) ∧ 0 ≤ (0 : Int32)) ∧ K (some (.int (cNu (gup σ 1 5 1)))) (cInt (gup σ 1 5 1) (0 : Int32) (((gup σ 1 5 1) 32 4 * 4) - 1))))))) : gE 27 0 [some (.ref 1), some (.ref 32)] [] σ K :=
  gw_run (cy := 27) (cuts := []) (inl := []) (pf := gpdq) gpdq_ok 400 (by decide) h
theorem s27 {σ : gS} {K : gK} (hc : RK σ ∧ (0 ≤ σ 32 7 ∧ σ 32 7 ≤ 20)) (hK : K (some (.int (cNu (cFs σ)))) (cInt (cFs σ) 0 (σ 32 4 * 4 - 1))) : gE 27 0 [some (.ref 1), some (.ref 32)] [] σ K := by
  obtain ⟨hr, h7⟩ := hc
  have z0 : (0 : Int32) ≤ 0 := by decide
  have g1 : gup σ 1 5 1 32 4 = σ 32 4 := gup_ne (by omega)
  have g0 : gup σ 1 5 0 32 4 = σ 32 4 := gup_ne (by omega)
  rw [show cFs σ = if σ 1 5 = 0 ∧ fWho (cR σ 32) (cNu σ) = -2 then σ else gup σ 1 5 1 from rfl] at hK
  refine w27 ?_
  rw [g1, g0]
  refine ⟨fun h => ⟨Or.inr rfl, ⟨RK_w hr, z0⟩, ?_⟩, fun h => ⟨hr, h7, fun h2 => ⟨Or.inl rfl, ?_, ?_⟩, fun h2 => ⟨Or.inr rfl, ⟨RK_w hr, z0⟩, ?_⟩⟩⟩
  · rw [if_neg (fun q => h q.1)] at hK; exact hK
  · rw [gup_id h]; exact ⟨hr, z0⟩
  · have q : fWho (cR σ 32) (cNu σ) = -2 := Decidable.not_not.mp (fun q => h2 (bI_0.mpr q))
    rw [if_pos ⟨h, q⟩] at hK
    rw [gup_id h]; exact hK
  · have q := bI_0.mp h2
    rw [if_neg (fun z => q z.2)] at hK; exact hK
noncomputable def f27 : gD := fun Lv σ => match Lv with
  | [some (.ref q0), some (.ref q1)] => cond ((Nat.beq q0 1) && (Nat.beq q1 32)) (some (some (RK σ ∧ (0 ≤ σ 32 7 ∧ σ 32 7 ≤ 20)), some (.int (cNu (cFs σ))), cInt (cFs σ) 0 (σ 32 4 * 4 - 1))) none
  | _ => none
theorem ok27 : gFok 27 f27 := by
  intro Lv σ q h hc K hK
  unfold f27 at h
  split at h
  · rename_i q0 q1
    obtain ⟨hb, h⟩ := c_no h
    obtain ⟨hc1, hb1⟩ := s_and hb
    have hb0 := hc1
    have e0 := b_eq hb0
    subst e0
    have e1 := b_eq hb1
    subst e1
    cases h
    exact s27 (hc _ rfl) hK
  · cases h
set_option maxRecDepth 20000 in
theorem w1 {σ : gS} {K : gK} (h : K none (gup (gup σ 56 1 0) 56 2 0)) : gE 1 0 [some (.ref 56)] [] σ K :=
  gw_run (cy := 1) (cuts := []) (inl := []) (pf := gpdq) gpdq_ok 400 (by decide) h
theorem s1 {σ : gS} {K : gK} (hK : K none (gup (gup σ 56 1 0) 56 2 0)) : gE 1 0 [some (.ref 56)] [] σ K := by
  exact w1 hK
noncomputable def f1 : gD := fun Lv σ => match Lv with
  | [some (.ref q0)] => cond (Nat.beq q0 56) (some (none, none, gup (gup σ 56 1 0) 56 2 0)) none
  | _ => none
theorem ok1 : gFok 1 f1 := by
  intro Lv σ q h hc K hK
  unfold f1 at h
  split at h
  · rename_i q0
    obtain ⟨hb, h⟩ := c_no h
    have hb0 := hb
    have e0 := b_eq hb0
    subst e0
    cases h
    exact s1 hK
  · cases h
noncomputable def gpdr_l : List (Nat × gD) := (27, f27) :: (1, f1) :: gpdq_l
noncomputable def gpdr : gP := gpl0 gpdr_l
theorem gpdr_ok : gPok gpdr := gpl0_cons ok27 (gpl0_cons ok1 (gpdq_ok))
def cZk (σ : gS) (k : Nat) : gS := fun q j => if q = 55 ∧ j < k then 0 else σ q j
theorem cZk_s (σ : gS) (k : Nat) : gup (cZk σ k) 55 k 0 = cZk σ (k + 1) := by
  funext q j
  unfold gup cZk
  grind
/-- an empty train -/
def cClT (σ : gS) : gS := fun q j => if q = 55 ∧ j < 50 then 0 else if q = 56 ∧ (j = 1 ∨ j = 2) then 0 else if q = 32 ∧ 5 ≤ j ∧ j ≤ 12 then 0 else σ q j
set_option maxRecDepth 20000 in
theorem w47 {σ : gS} {K : gK} (h : gE 47 2 [some (.ref 32), some (.int 0)] [] σ K) : gE 47 0 [some (.ref 32), none] [] σ K :=
  gw_run (cy := 47) (cuts := [2]) (inl := []) (pf := gpdr) gpdr_ok 400 (by decide) h
set_option maxRecDepth 20000 in
theorem v47 {σ : gS} {K : gK} {k : Int32} (h : ((¬ k < 50 → K none (gup (gup (gup (gup (gup (gup (gup (gup (gup (gup σ 56 1 0) 56 2 0) 32 5 0) 32 6 0) 32 7 0) 32 8 0) 32 9 0) 32 10 0) 32 11 0) 32 12 0)) ∧ (k < 50 → (0 ≤ k ∧ k < 50) ∧ gE 47 2 [some (.ref 32), some (.int (k + 1))] [] (gup σ 55 k.toNatClampNeg 0) K))) : gE 47 2 [some (.ref 32), some (.int k)] [] σ K :=
  gw_run (cy := 47) (cuts := [2]) (inl := []) (pf := gpdr) gpdr_ok 400 (by decide) h
theorem s47 {σ : gS} {K : gK} (hK : K none (cClT σ)) : gE 47 0 [some (.ref 32), none] [] σ K := by
  refine w47 ?_
  have key : ∀ d k, k + d = 50 → gE 47 2 [some (.ref 32), some (.int (iN k))] [] (cZk σ k) K := by
    intro d
    induction d with
    | zero =>
      intro k hk
      have : k = 50 := by omega
      subst this
      refine v47 ⟨fun _ => ?_, fun h => absurd h (by decide)⟩
      have e : gup (gup (gup (gup (gup (gup (gup (gup (gup (gup (cZk σ 50) 56 1 0) 56 2 0) 32 5 0) 32 6 0) 32 7 0) 32 8 0) 32 9 0) 32 10 0) 32 11 0) 32 12 0 = cClT σ := by
        funext q j
        unfold gup cZk cClT
        grind (splits := 60)
      rw [e]
      exact hK
    | succ d ih =>
      intro k hk
      refine v47 ⟨fun h => absurd ((iN_lt (k := k) (m := 50) (by omega) (by decide)).mpr (by omega)) h, fun _ => ⟨⟨(iN_le (k := 0) (by decide) (by omega)).mpr (by omega), (iN_lt (m := 50) (by omega) (by decide)).mpr (by omega)⟩, ?_⟩⟩
      rw [iN_nat (by omega), cZk_s, iN_one]
      exact ih (k + 1) (by omega)
  have e0 : cZk σ 0 = σ := by
    funext q j
    unfold cZk
    rw [if_neg (by omega)]
  have := key 50 0 (by omega)
  rw [e0] at this
  exact this
noncomputable def f47 : gD := fun Lv σ => match Lv with
  | [some (.ref q0), none] => cond (Nat.beq q0 32) (some (none, none, cClT σ)) none
  | _ => none
theorem ok47 : gFok 47 f47 := by
  intro Lv σ q h hc K hK
  unfold f47 at h
  split at h
  · rename_i q0
    obtain ⟨hb, h⟩ := c_no h
    have hb0 := hb
    have e0 := b_eq hb0
    subst e0
    cases h
    exact s47 hK
  · cases h
noncomputable def gpds_l : List (Nat × gD) := (47, f47) :: gpdr_l
noncomputable def gpds : gP := gpl0 gpds_l
theorem gpds_ok : gPok gpds := gpl0_cons ok47 (gpdr_ok)
end
section
-- text 81
/-! THE CLASS: a traveller is read -/
theorem RK_cg {σ τ : gS} (h : RK σ) (h1 : τ 1 = σ 1) (h2 : τ 2 = σ 2) (h3 : τ 3 = σ 3) : RK τ := by
  unfold RK RW RD at *
  rw [h1, h2, h3]
  exact h
theorem RK_4 {σ : gS} {j : Nat} {x : Int32} (h : RK σ) : RK (gup σ 4 j x) := RK_cg h (funext fun i => gup_ne (by omega)) (funext fun i => gup_ne (by omega)) (funext fun i => gup_ne (by omega))
theorem cPs_far {σ : gS} {c : Int32} {q : Nat} (h : ¬ q = 1) : cPs σ c q = σ q := by
  funext j
  unfold cPs
  split
  · exact cTok_ne (by omega)
  · exact gup_ne (by omega)
theorem cInt_far {σ : gS} {a b : Int32} {q : Nat} (h : ¬ q = 1) : cInt σ a b q = σ q := cPs_far h
theorem cWd_k {σ : gS} {B : List Int32} (h : RK σ) (hw : cWd σ B) : RD σ := h.1.1.2 (by rw [hw.1]; decide)
/-- the seat's word; the seat; the name -/
def rA (σ : gS) : gS := cPs (cZr σ 4) (bI (cWd (cZr σ 4) (jW 1000003)))
def rB (σ : gS) : gS := gup (cInt (cFs σ) 0 (σ 32 4 * 4 - 1)) 4 1 (cNu (cFs σ))
def rC (σ : gS) : gS := gup (cPs σ (bI (cNm σ))) 4 0 (cPk (σ 3) (σ 2 1).toNatClampNeg (σ 1 2).toNatClampNeg (min ((σ 1 3).toNatClampNeg - (σ 1 2).toNatClampNeg) 5))
/-- what may stand -/
abbrev rTh (σ : gS) (p : Nat) : Prop := σ 1 5 = 0 ∧ cWd σ (jW p)
def rT (σ : gS) : gS := if rTh σ 1000004 then gup (cTok σ) 4 2 1 else σ
def rF (σ : gS) : gS := if rTh σ 1000005 then gup (cInt (cTok σ) 1 9) 4 3 (cNu (cTok σ)) else σ
def rW (σ : gS) : gS := if rTh σ 1000006 then gup (cInt (cLkH (cTok σ)) 0 9) 4 4 (cLik (cTok σ)) else σ
def rAh (σ : gS) : gS := if rTh σ 1000007 then gup (cInt (cLkH (cTok σ)) 0 9) 4 5 (cLik (cTok σ)) else σ
def rR1 (σ : gS) : gS := gup (cInt (cTok σ) 0 (σ 32 4 - 1)) 4 6 (cNu (cTok σ))
def rR (σ : gS) : gS := if rTh σ 1000008 then gup (cInt (rR1 σ) 0 3) 4 7 (cNu (rR1 σ)) else σ
def rS (σ : gS) : gS := if rTh σ 1000009 then gup (cInt (cTok σ) 0 99) 4 8 (cNu (cTok σ)) else σ
def rP (σ : gS) : gS := if rTh σ 1000010 then gup (cInt (cTok σ) 1 99) 4 9 (cNu (cTok σ)) else σ
theorem z00 : (0 : Int32) ≤ 0 := by decide
theorem z01 : (0 : Int32) ≤ 1 := by decide
theorem rA_RK {σ : gS} (h : RK σ) : RK (rA σ) := by
  have h0 : RK (cZr σ 4) := RK_cg h (cZr_ne (by decide)) (cZr_ne (by decide)) (cZr_ne (by decide))
  refine cPs_RK h0 (fun q => ?_)
  have q : cWd (cZr σ 4) (jW 1000003) := Decidable.not_not.mp (fun z => q (bI_0.mpr z))
  rw [q.1]
  decide
theorem rB_RK {σ : gS} (h : RK σ) : RK (rB σ) := RK_4 (cInt_RK (cFs_RK h) z00)
theorem rC_RK {σ : gS} (h : RK σ) : RK (rC σ) := by
  refine RK_4 (cPs_RK h (fun q => ?_))
  have q : cNm σ := Decidable.not_not.mp (fun z => q (bI_0.mpr z))
  rw [q.1]
  decide
theorem rT_RK {σ : gS} (h : RK σ) : RK (rT σ) := by
  unfold rT
  split
  · rename_i q; exact RK_4 (cTok_RK (cWd_k h q.2))
  · exact h
theorem rF_RK {σ : gS} (h : RK σ) : RK (rF σ) := by
  unfold rF
  split
  · rename_i q; exact RK_4 (cInt_RK (cTok_RK (cWd_k h q.2)) z01)
  · exact h
theorem rW_RK {σ : gS} (h : RK σ) : RK (rW σ) := by
  unfold rW
  split
  · rename_i q; exact RK_4 (cInt_RK (cLkH_RK (cTok_RK (cWd_k h q.2))) z00)
  · exact h
theorem rAh_RK {σ : gS} (h : RK σ) : RK (rAh σ) := by
  unfold rAh
  split
  · rename_i q; exact RK_4 (cInt_RK (cLkH_RK (cTok_RK (cWd_k h q.2))) z00)
  · exact h
theorem rR1_RK {σ : gS} (h : RD σ) : RK (rR1 σ) := RK_4 (cInt_RK (cTok_RK h) z00)
theorem rR_RK {σ : gS} (h : RK σ) : RK (rR σ) := by
  unfold rR
  split
  · rename_i q; exact RK_4 (cInt_RK (rR1_RK (cWd_k h q.2)) z00)
  · exact h
theorem rS_RK {σ : gS} (h : RK σ) : RK (rS σ) := by
  unfold rS
  split
  · rename_i q; exact RK_4 (cInt_RK (cTok_RK (cWd_k h q.2)) z00)
  · exact h
theorem rP_RK {σ : gS} (h : RK σ) : RK (rP σ) := by
  unfold rP
  split
  · rename_i q; exact RK_4 (cInt_RK (cTok_RK (cWd_k h q.2)) z01)
  · exact h
-- text 82
/-! THE CLASS: a traveller is read, the walk -/
theorem tv_4 : gTv 4 := by unfold gTv; decide +kernel
theorem rTh_y {σ : gS} {p : Nat} (h : ¬ bI (rTh σ p) = 0) : rTh σ p := Decidable.not_not.mp (fun q => h (bI_0.mpr q))
/-- a traveller's end: admitted if all is right -/
def rZ (σ : gS) : gS := if cB0 σ = 59 ∧ (σ 4 2 = 1 ∨ cR σ 32 1 ≤ σ 4 1 / 4) then (if cPs σ 1 1 5 = 0 then cAdm (cPs σ 1) 32 4 else cPs σ 1) else cPs σ 0
set_option maxRecDepth 20000 in
theorem w32 {σ : gS} {K : gK} (h : gTv 4 ∧ (gTv 4) ∧ (RK (cZr σ 4)) ∧ gE 32 13 [some (.ref 1), some (.ref 32)] [] (cPs (cZr σ 4) (bI (cWd (cZr σ 4) (jW 1000003)))) K) : gE 32 0 [some (.ref 1), some (.ref 32)] [] σ K :=
  gw_run (cy := 32) (cuts := [13, 25, 36, 53, 76, 96, 116, 156, 179, 202, 237, 256]) (inl := []) (pf := gpds) gpds_ok 400 (by decide) h
set_option maxRecDepth 20000 in
theorem c32_13 {σ : gS} {K : gK} (h : (RK σ ∧ (0 ≤ σ 32 7 ∧ σ 32 7 ≤ 20)) ∧ gTv 4 ∧ gE 32 25 [some (.ref 1), some (.ref 32)] [] (gup (cInt (cFs σ) 0 (σ 32 4 * 4 - 1)) 4 1 (cNu (cFs σ))) K) : gE 32 13 [some (.ref 1), some (.ref 32)] [] σ K :=
  gw_run (cy := 32) (cuts := [13, 25, 36, 53, 76, 96, 116, 156, 179, 202, 237, 256]) (inl := []) (pf := gpds) gpds_ok 400 (by decide) h
set_option maxRecDepth 20000 in
theorem c32_25 {σ : gS} {K : gK} (h : (RK σ) ∧ gTv 4 ∧ gE 32 36 [some (.ref 1), some (.ref 32)] [] (gup (cPs σ (bI (cNm σ))) 4 0 (cPk (σ 3) (σ 2 1).toNatClampNeg (σ 1 2).toNatClampNeg (min ((σ 1 3).toNatClampNeg - (σ 1 2).toNatClampNeg) 5))) K) : gE 32 25 [some (.ref 1), some (.ref 32)] [] σ K :=
  gw_run (cy := 32) (cuts := [13, 25, 36, 53, 76, 96, 116, 156, 179, 202, 237, 256]) (inl := []) (pf := gpds) gpds_ok 400 (by decide) h
set_option maxRecDepth 20000 in
theorem c32_36 {σ : gS} {K : gK} (h : (RK σ) ∧ (((bI (σ 1 5 = 0 ∧ cWd σ (jW 1000004))) = 0 → gE 32 53 [some (.ref 1), some (.ref 32)] [] (if σ 1 5 = 0 ∧ cWd σ (jW 1000004) then cTok σ else σ) K) ∧ (¬ (bI (σ 1 5 = 0 ∧ cWd σ (jW 1000004))) = 0 → gTv 4 ∧ gE 32 53 [some (.ref 1), some (.ref 32)] [] (gup (if σ 1 5 = 0 ∧ cWd σ (jW 1000004) then cTok σ else σ) 4 2 1) K))) : gE 32 36 [some (.ref 1), some (.ref 32)] [] σ K :=
  gw_run (cy := 32) (cuts := [13, 25, 36, 53, 76, 96, 116, 156, 179, 202, 237, 256]) (inl := []) (pf := gpds) gpds_ok 400 (by decide) h
set_option maxRecDepth 20000 in
theorem c32_53 {σ : gS} {K : gK} (h : (RK σ) ∧ (((bI (σ 1 5 = 0 ∧ cWd σ (jW 1000005))) = 0 → gE 32 76 [some (.ref 1), some (.ref 32)] [] (if σ 1 5 = 0 ∧ cWd σ (jW 1000005) then cTok σ else σ) K) ∧ (¬ (bI (σ 1 5 = 0 ∧ cWd σ (jW 1000005))) = 0 → (RK (if σ 1 5 = 0 ∧ cWd σ (jW 1000005) then cTok σ else σ) ∧ 0 ≤ (1 : Int32)) ∧ gTv 4 ∧ gE 32 76 [some (.ref 1), some (.ref 32)] [] (gup (cInt (if σ 1 5 = 0 ∧ cWd σ (jW 1000005) then cTok σ else σ) (1 : Int32) (9 : Int32)) 4 3 (cNu (if σ 1 5 = 0 ∧ cWd σ (jW 1000005) then cTok σ else σ))) K))) : gE 32 53 [some (.ref 1), some (.ref 32)] [] σ K :=
  gw_run (cy := 32) (cuts := [13, 25, 36, 53, 76, 96, 116, 156, 179, 202, 237, 256]) (inl := []) (pf := gpds) gpds_ok 400 (by decide) h
set_option maxRecDepth 20000 in
theorem c32_76 {σ : gS} {K : gK} (h : (RK σ) ∧ (((bI (σ 1 5 = 0 ∧ cWd σ (jW 1000006))) = 0 → gE 32 96 [some (.ref 1), some (.ref 32)] [] (if σ 1 5 = 0 ∧ cWd σ (jW 1000006) then cTok σ else σ) K) ∧ (¬ (bI (σ 1 5 = 0 ∧ cWd σ (jW 1000006))) = 0 → (RK (if σ 1 5 = 0 ∧ cWd σ (jW 1000006) then cTok σ else σ)) ∧ gTv 4 ∧ gE 32 96 [some (.ref 1), some (.ref 32)] [] (gup (cInt (cLkH (if σ 1 5 = 0 ∧ cWd σ (jW 1000006) then cTok σ else σ)) 0 9) 4 4 (cLik (if σ 1 5 = 0 ∧ cWd σ (jW 1000006) then cTok σ else σ))) K))) : gE 32 76 [some (.ref 1), some (.ref 32)] [] σ K :=
  gw_run (cy := 32) (cuts := [13, 25, 36, 53, 76, 96, 116, 156, 179, 202, 237, 256]) (inl := []) (pf := gpds) gpds_ok 400 (by decide) h
set_option maxRecDepth 20000 in
theorem c32_96 {σ : gS} {K : gK} (h : (RK σ) ∧ (((bI (σ 1 5 = 0 ∧ cWd σ (jW 1000007))) = 0 → gE 32 116 [some (.ref 1), some (.ref 32)] [] (if σ 1 5 = 0 ∧ cWd σ (jW 1000007) then cTok σ else σ) K) ∧ (¬ (bI (σ 1 5 = 0 ∧ cWd σ (jW 1000007))) = 0 → (RK (if σ 1 5 = 0 ∧ cWd σ (jW 1000007) then cTok σ else σ)) ∧ gTv 4 ∧ gE 32 116 [some (.ref 1), some (.ref 32)] [] (gup (cInt (cLkH (if σ 1 5 = 0 ∧ cWd σ (jW 1000007) then cTok σ else σ)) 0 9) 4 5 (cLik (if σ 1 5 = 0 ∧ cWd σ (jW 1000007) then cTok σ else σ))) K))) : gE 32 96 [some (.ref 1), some (.ref 32)] [] σ K :=
  gw_run (cy := 32) (cuts := [13, 25, 36, 53, 76, 96, 116, 156, 179, 202, 237, 256]) (inl := []) (pf := gpds) gpds_ok 400 (by decide) h
set_option maxRecDepth 20000 in
theorem c32_116 {σ : gS} {K : gK} (h : (RK σ) ∧ (((bI (σ 1 5 = 0 ∧ cWd σ (jW 1000008))) = 0 → gE 32 156 [some (.ref 1), some (.ref 32)] [] (if σ 1 5 = 0 ∧ cWd σ (jW 1000008) then cTok σ else σ) K) ∧ (¬ (bI (σ 1 5 = 0 ∧ cWd σ (jW 1000008))) = 0 → (RK (if σ 1 5 = 0 ∧ cWd σ (jW 1000008) then cTok σ else σ) ∧ 0 ≤ (0 : Int32)) ∧ gTv 4 ∧ (RK (gup (cInt (if σ 1 5 = 0 ∧ cWd σ (jW 1000008) then cTok σ else σ) (0 : Int32) (((if σ 1 5 = 0 ∧ cWd σ (jW 1000008) then cTok σ else σ) 32 4) - 1)) 4 6 (cNu (if σ 1 5 = 0 ∧ cWd σ (jW 1000008) then cTok σ else σ))) ∧ 0 ≤ (0 : Int32)) ∧ gTv 4 ∧ gE 32 156 [some (.ref 1), some (.ref 32)] [] (gup (cInt (gup (cInt (if σ 1 5 = 0 ∧ cWd σ (jW 1000008) then cTok σ else σ) (0 : Int32) (((if σ 1 5 = 0 ∧ cWd σ (jW 1000008) then cTok σ else σ) 32 4) - 1)) 4 6 (cNu (if σ 1 5 = 0 ∧ cWd σ (jW 1000008) then cTok σ else σ))) (0 : Int32) (3 : Int32)) 4 7 (cNu (gup (cInt (if σ 1 5 = 0 ∧ cWd σ (jW 1000008) then cTok σ else σ) (0 : Int32) (((if σ 1 5 = 0 ∧ cWd σ (jW 1000008) then cTok σ else σ) 32 4) - 1)) 4 6 (cNu (if σ 1 5 = 0 ∧ cWd σ (jW 1000008) then cTok σ else σ))))) K))) : gE 32 116 [some (.ref 1), some (.ref 32)] [] σ K :=
  gw_run (cy := 32) (cuts := [13, 25, 36, 53, 76, 96, 116, 156, 179, 202, 237, 256]) (inl := []) (pf := gpds) gpds_ok 400 (by decide) h
set_option maxRecDepth 20000 in
theorem c32_156 {σ : gS} {K : gK} (h : (RK σ) ∧ (((bI (σ 1 5 = 0 ∧ cWd σ (jW 1000009))) = 0 → gE 32 179 [some (.ref 1), some (.ref 32)] [] (if σ 1 5 = 0 ∧ cWd σ (jW 1000009) then cTok σ else σ) K) ∧ (¬ (bI (σ 1 5 = 0 ∧ cWd σ (jW 1000009))) = 0 → (RK (if σ 1 5 = 0 ∧ cWd σ (jW 1000009) then cTok σ else σ) ∧ 0 ≤ (0 : Int32)) ∧ gTv 4 ∧ gE 32 179 [some (.ref 1), some (.ref 32)] [] (gup (cInt (if σ 1 5 = 0 ∧ cWd σ (jW 1000009) then cTok σ else σ) (0 : Int32) (99 : Int32)) 4 8 (cNu (if σ 1 5 = 0 ∧ cWd σ (jW 1000009) then cTok σ else σ))) K))) : gE 32 156 [some (.ref 1), some (.ref 32)] [] σ K :=
  gw_run (cy := 32) (cuts := [13, 25, 36, 53, 76, 96, 116, 156, 179, 202, 237, 256]) (inl := []) (pf := gpds) gpds_ok 400 (by decide) h
set_option maxRecDepth 20000 in
theorem c32_179 {σ : gS} {K : gK} (h : (RK σ) ∧ (((bI (σ 1 5 = 0 ∧ cWd σ (jW 1000010))) = 0 → gE 32 202 [some (.ref 1), some (.ref 32)] [] (if σ 1 5 = 0 ∧ cWd σ (jW 1000010) then cTok σ else σ) K) ∧ (¬ (bI (σ 1 5 = 0 ∧ cWd σ (jW 1000010))) = 0 → (RK (if σ 1 5 = 0 ∧ cWd σ (jW 1000010) then cTok σ else σ) ∧ 0 ≤ (1 : Int32)) ∧ gTv 4 ∧ gE 32 202 [some (.ref 1), some (.ref 32)] [] (gup (cInt (if σ 1 5 = 0 ∧ cWd σ (jW 1000010) then cTok σ else σ) (1 : Int32) (99 : Int32)) 4 9 (cNu (if σ 1 5 = 0 ∧ cWd σ (jW 1000010) then cTok σ else σ))) K))) : gE 32 179 [some (.ref 1), some (.ref 32)] [] σ K :=
  gw_run (cy := 32) (cuts := [13, 25, 36, 53, 76, 96, 116, 156, 179, 202, 237, 256]) (inl := []) (pf := gpds) gpds_ok 400 (by decide) h
set_option maxRecDepth 20000 in
theorem c32_202 {σ : gS} {K : gK} (h : (RW σ) ∧ (((bI (cBy (σ 3) (σ 2 1).toNatClampNeg (σ 1 2).toNatClampNeg = (59 : Int32))) = 0 → gE 32 237 [some (.ref 1), some (.ref 32)] [.ref 1] σ K) ∧ (¬ (bI (cBy (σ 3) (σ 2 1).toNatClampNeg (σ 1 2).toNatClampNeg = (59 : Int32))) = 0 → gTv 4 ∧ gTv 4 ∧ (((bI ((σ 4 2) = 1 ∨ cR σ 32 1 ≤ (σ 4 1) / 4)) = 0 → gE 32 237 [some (.ref 1), some (.ref 32)] [.ref 1] σ K) ∧ (¬ (bI ((σ 4 2) = 1 ∨ cR σ 32 1 ≤ (σ 4 1) / 4)) = 0 → (¬ (1 : Int32) = 0 → RD σ) ∧ ((¬ ((cPs σ (1 : Int32)) 1 5) = 0 → gE 32 256 [some (.ref 1), some (.ref 32)] [] (cPs σ (1 : Int32)) K) ∧ (((cPs σ (1 : Int32)) 1 5) = 0 → ((0 ≤ (cPs σ (1 : Int32)) 32 7 ∧ (cPs σ (1 : Int32)) 32 7 < 20) ∧ gTv 4) ∧ gE 32 256 [some (.ref 1), some (.ref 32)] [] (cAdm (cPs σ (1 : Int32)) 32 4) K))))))) : gE 32 202 [some (.ref 1), some (.ref 32)] [] σ K :=
  gw_run (cy := 32) (cuts := [13, 25, 36, 53, 76, 96, 116, 156, 179, 202, 237, 256]) (inl := []) (pf := gpds) gpds_ok 400 (by decide) h
set_option maxRecDepth 20000 in
theorem c32_237 {σ : gS} {K : gK} (h : (¬ (0 : Int32) = 0 → RD σ) ∧ ((¬ ((cPs σ (0 : Int32)) 1 5) = 0 → gE 32 256 [some (.ref 1), some (.ref 32)] [] (cPs σ (0 : Int32)) K) ∧ (((cPs σ (0 : Int32)) 1 5) = 0 → ((0 ≤ (cPs σ (0 : Int32)) 32 7 ∧ (cPs σ (0 : Int32)) 32 7 < 20) ∧ gTv 4) ∧ gE 32 256 [some (.ref 1), some (.ref 32)] [] (cAdm (cPs σ (0 : Int32)) 32 4) K))) : gE 32 237 [some (.ref 1), some (.ref 32)] [.ref 1] σ K :=
  gw_run (cy := 32) (cuts := [13, 25, 36, 53, 76, 96, 116, 156, 179, 202, 237, 256]) (inl := []) (pf := gpds) gpds_ok 400 (by decide) h
set_option maxRecDepth 20000 in
theorem c32_256 {σ : gS} {K : gK} (h : K none σ) : gE 32 256 [some (.ref 1), some (.ref 32)] [] σ K :=
  gw_run (cy := 32) (cuts := [13, 25, 36, 53, 76, 96, 116, 156, 179, 202, 237, 256]) (inl := []) (pf := gpds) gpds_ok 400 (by decide) h
theorem st_53 {σ : gS} {K : gK} (h : RK σ) (hK : gE 32 76 [some (.ref 1), some (.ref 32)] [] (rF σ) K) : gE 32 53 [some (.ref 1), some (.ref 32)] [] σ K := by
  unfold rF at hK
  refine c32_53 ⟨h, fun q => ?_, fun q => ?_⟩
  · have q := bI_0.mp q
    rw [if_neg q] at hK
    rw [if_neg q]
    exact hK
  · have q := rTh_y q
    rw [if_pos q] at hK
    rw [if_pos q]
    exact ⟨⟨cTok_RK (cWd_k h q.2), z01⟩, tv_4, hK⟩
theorem st_76 {σ : gS} {K : gK} (h : RK σ) (hK : gE 32 96 [some (.ref 1), some (.ref 32)] [] (rW σ) K) : gE 32 76 [some (.ref 1), some (.ref 32)] [] σ K := by
  unfold rW at hK
  refine c32_76 ⟨h, fun q => ?_, fun q => ?_⟩
  · have q := bI_0.mp q
    rw [if_neg q] at hK
    rw [if_neg q]
    exact hK
  · have q := rTh_y q
    rw [if_pos q] at hK
    rw [if_pos q]
    exact ⟨cTok_RK (cWd_k h q.2), tv_4, hK⟩
theorem st_96 {σ : gS} {K : gK} (h : RK σ) (hK : gE 32 116 [some (.ref 1), some (.ref 32)] [] (rAh σ) K) : gE 32 96 [some (.ref 1), some (.ref 32)] [] σ K := by
  unfold rAh at hK
  refine c32_96 ⟨h, fun q => ?_, fun q => ?_⟩
  · have q := bI_0.mp q
    rw [if_neg q] at hK
    rw [if_neg q]
    exact hK
  · have q := rTh_y q
    rw [if_pos q] at hK
    rw [if_pos q]
    exact ⟨cTok_RK (cWd_k h q.2), tv_4, hK⟩
theorem st_156 {σ : gS} {K : gK} (h : RK σ) (hK : gE 32 179 [some (.ref 1), some (.ref 32)] [] (rS σ) K) : gE 32 156 [some (.ref 1), some (.ref 32)] [] σ K := by
  unfold rS at hK
  refine c32_156 ⟨h, fun q => ?_, fun q => ?_⟩
  · have q := bI_0.mp q
    rw [if_neg q] at hK
    rw [if_neg q]
    exact hK
  · have q := rTh_y q
    rw [if_pos q] at hK
    rw [if_pos q]
    exact ⟨⟨cTok_RK (cWd_k h q.2), z00⟩, tv_4, hK⟩
theorem st_179 {σ : gS} {K : gK} (h : RK σ) (hK : gE 32 202 [some (.ref 1), some (.ref 32)] [] (rP σ) K) : gE 32 179 [some (.ref 1), some (.ref 32)] [] σ K := by
  unfold rP at hK
  refine c32_179 ⟨h, fun q => ?_, fun q => ?_⟩
  · have q := bI_0.mp q
    rw [if_neg q] at hK
    rw [if_neg q]
    exact hK
  · have q := rTh_y q
    rw [if_pos q] at hK
    rw [if_pos q]
    exact ⟨⟨cTok_RK (cWd_k h q.2), z01⟩, tv_4, hK⟩
theorem st_116 {σ : gS} {K : gK} (h : RK σ) (hK : gE 32 156 [some (.ref 1), some (.ref 32)] [] (rR σ) K) : gE 32 116 [some (.ref 1), some (.ref 32)] [] σ K := by
  unfold rR rR1 at hK
  refine c32_116 ⟨h, fun q => ?_, fun q => ?_⟩
  · have q := bI_0.mp q
    rw [if_neg q] at hK
    rw [if_neg q]
    exact hK
  · have q := rTh_y q
    have e : cTok σ 32 4 = σ 32 4 := cTok_ne (by omega)
    rw [if_pos q] at hK
    rw [if_pos q, e]
    have k1 : RK (cTok σ) := cTok_RK (cWd_k h q.2)
    have k2 : RK (gup (cInt (cTok σ) 0 (σ 32 4 - 1)) 4 6 (cNu (cTok σ))) := RK_4 (cInt_RK k1 z00)
    exact ⟨⟨k1, z00⟩, tv_4, ⟨k2, z00⟩, tv_4, hK⟩
theorem st_0 {σ : gS} {K : gK} (h : RK σ) (hK : gE 32 13 [some (.ref 1), some (.ref 32)] [] (rA σ) K) : gE 32 0 [some (.ref 1), some (.ref 32)] [] σ K :=
  w32 ⟨tv_4, tv_4, RK_cg h (cZr_ne (by decide)) (cZr_ne (by decide)) (cZr_ne (by decide)), hK⟩
theorem st_13 {σ : gS} {K : gK} (h : RK σ) (h7 : 0 ≤ σ 32 7 ∧ σ 32 7 ≤ 20) (hK : gE 32 25 [some (.ref 1), some (.ref 32)] [] (rB σ) K) : gE 32 13 [some (.ref 1), some (.ref 32)] [] σ K :=
  c32_13 ⟨⟨h, h7⟩, tv_4, hK⟩
theorem st_25 {σ : gS} {K : gK} (h : RK σ) (hK : gE 32 36 [some (.ref 1), some (.ref 32)] [] (rC σ) K) : gE 32 25 [some (.ref 1), some (.ref 32)] [] σ K :=
  c32_25 ⟨h, tv_4, hK⟩
end
section
-- text 83
/-! THE CLASS: a traveller is read, the end -/
theorem st_36 {σ : gS} {K : gK} (h : RK σ) (hK : gE 32 53 [some (.ref 1), some (.ref 32)] [] (rT σ) K) : gE 32 36 [some (.ref 1), some (.ref 32)] [] σ K := by
  unfold rT at hK
  refine c32_36 ⟨h, fun q => ?_, fun q => ?_⟩
  · have q := bI_0.mp q
    rw [if_neg q] at hK
    rw [if_neg q]
    exact hK
  · have q := rTh_y q
    rw [if_pos q] at hK
    rw [if_pos q]
    exact ⟨tv_4, hK⟩
theorem st_202 {σ : gS} {K : gK} (h : RK σ) (h7 : 0 ≤ σ 32 7 ∧ σ 32 7 < 20) (hK : K none (rZ σ)) : gE 32 202 [some (.ref 1), some (.ref 32)] [] σ K := by
  have no : ¬ (cB0 σ = 59 ∧ (σ 4 2 = 1 ∨ cR σ 32 1 ≤ σ 4 1 / 4)) → gE 32 237 [some (.ref 1), some (.ref 32)] [.ref 1] σ K := by
    intro q
    unfold rZ at hK
    rw [if_neg q] at hK
    have w : cPs σ 0 1 5 = 1 := by
      unfold cPs
      rw [if_neg (fun z => z.2 rfl), gup_at]
    refine c32_237 ⟨fun z => absurd rfl z, fun _ => c32_256 hK, fun z => ?_⟩
    rw [w] at z
    exact absurd z (by decide)
  refine c32_202 ⟨h.1.1.1, fun q => no (fun z => bI_0.mp q z.1), fun q => ⟨tv_4, tv_4, fun q2 => no (fun z => bI_0.mp q2 z.2), fun q2 => ?_⟩⟩
  have hb : cB0 σ = 59 := Decidable.not_not.mp (fun z => q (bI_0.mpr z))
  have ha : σ 4 2 = 1 ∨ cR σ 32 1 ≤ σ 4 1 / 4 := Decidable.not_not.mp (fun z => q2 (bI_0.mpr z))
  unfold rZ at hK
  rw [if_pos ⟨hb, ha⟩] at hK
  refine ⟨fun _ => h.1.1.2 (RK_sg h hb (by decide)), fun q3 => ?_, fun q3 => ⟨⟨?_, tv_4⟩, ?_⟩⟩
  · rw [if_neg q3] at hK
    exact c32_256 hK
  · rw [cPs_far (by decide)]
    exact h7
  · rw [if_pos q3] at hK
    exact c32_256 hK
-- text 84
/-! THE CLASS: a traveller is read -/
theorem cTok_far {σ : gS} {q : Nat} (h : ¬ q = 1) : cTok σ q = σ q := funext fun j => cTok_ne (by omega)
theorem g4_far {σ : gS} {q j : Nat} {x : Int32} (h : ¬ q = 4) : gup σ 4 j x q = σ q := funext fun i => gup_ne (by omega)
theorem cFs_far {σ : gS} {q : Nat} (h : ¬ q = 1) : cFs σ q = σ q := funext fun j => cFs_ne (by omega)
theorem cLkH_far {σ : gS} {q : Nat} (h : ¬ q = 1) : cLkH σ q = σ q := cPs_far h
theorem rA_far {σ : gS} {q : Nat} (h : ¬ q = 1) (h4 : ¬ q = 4) : rA σ q = σ q := by
  unfold rA
  rw [cPs_far h, cZr_ne h4]
theorem rB_far {σ : gS} {q : Nat} (h : ¬ q = 1) (h4 : ¬ q = 4) : rB σ q = σ q := by
  unfold rB
  rw [g4_far h4, cInt_far h, cFs_far h]
theorem rC_far {σ : gS} {q : Nat} (h : ¬ q = 1) (h4 : ¬ q = 4) : rC σ q = σ q := by
  unfold rC
  rw [g4_far h4, cPs_far h]
theorem rT_far {σ : gS} {q : Nat} (h : ¬ q = 1) (h4 : ¬ q = 4) : rT σ q = σ q := by
  unfold rT
  split
  · rw [g4_far h4, cTok_far h]
  · rfl
theorem rF_far {σ : gS} {q : Nat} (h : ¬ q = 1) (h4 : ¬ q = 4) : rF σ q = σ q := by
  unfold rF
  split
  · rw [g4_far h4, cInt_far h, cTok_far h]
  · rfl
theorem rW_far {σ : gS} {q : Nat} (h : ¬ q = 1) (h4 : ¬ q = 4) : rW σ q = σ q := by
  unfold rW
  split
  · rw [g4_far h4, cInt_far h, cLkH_far h, cTok_far h]
  · rfl
theorem rAh_far {σ : gS} {q : Nat} (h : ¬ q = 1) (h4 : ¬ q = 4) : rAh σ q = σ q := by
  unfold rAh
  split
  · rw [g4_far h4, cInt_far h, cLkH_far h, cTok_far h]
  · rfl
theorem rR_far {σ : gS} {q : Nat} (h : ¬ q = 1) (h4 : ¬ q = 4) : rR σ q = σ q := by
  unfold rR rR1
  split
  · rw [g4_far h4, cInt_far h, g4_far h4, cInt_far h, cTok_far h]
  · rfl
theorem rS_far {σ : gS} {q : Nat} (h : ¬ q = 1) (h4 : ¬ q = 4) : rS σ q = σ q := by
  unfold rS
  split
  · rw [g4_far h4, cInt_far h, cTok_far h]
  · rfl
theorem rP_far {σ : gS} {q : Nat} (h : ¬ q = 1) (h4 : ¬ q = 4) : rP σ q = σ q := by
  unfold rP
  split
  · rw [g4_far h4, cInt_far h, cTok_far h]
  · rfl
/-- all but the end -/
def rMid (σ : gS) : gS := rP (rS (rR (rAh (rW (rF (rT (rC (rB (rA σ)))))))))
theorem rMid_far {σ : gS} {q : Nat} (h : ¬ q = 1) (h4 : ¬ q = 4) : rMid σ q = σ q := by
  unfold rMid
  rw [rP_far h h4, rS_far h h4, rR_far h h4, rAh_far h h4, rW_far h h4, rF_far h h4, rT_far h h4, rC_far h h4, rB_far h h4, rA_far h h4]
theorem rMid_RK {σ : gS} (h : RK σ) : RK (rMid σ) := rP_RK (rS_RK (rR_RK (rAh_RK (rW_RK (rF_RK (rT_RK (rC_RK (rB_RK (rA_RK h)))))))))
end
section
-- text 85
/-! THE CLASS: a traveller is read, as a whole; a setup is read -/
theorem rTrv_x : ∃ f : gS → gS, ∀ σ, f σ = rZ (rMid σ) := ⟨fun σ => rZ (rMid σ), fun _ => rfl⟩
noncomputable def rTrv : gS → gS := Classical.choose rTrv_x
theorem rTrv_e : ∀ σ, rTrv σ = rZ (rMid σ) := Classical.choose_spec rTrv_x
theorem s32 {σ : gS} {K : gK} (hc : RK σ ∧ (0 ≤ σ 32 7 ∧ σ 32 7 < 20)) (hK : K none (rTrv σ)) : gE 32 0 [some (.ref 1), some (.ref 32)] [] σ K := by
  obtain ⟨h, h7⟩ := hc
  rw [rTrv_e] at hK
  unfold rMid at hK
  have h20 : 0 ≤ σ 32 7 ∧ σ 32 7 ≤ 20 := ⟨h7.1, by have := h7.2; grind⟩
  have a := rA_RK h
  have b := rB_RK a
  have c := rC_RK b
  have d := rT_RK c
  have e := rF_RK d
  have f := rW_RK e
  have g := rAh_RK f
  have i := rR_RK g
  have j := rS_RK i
  have k := rP_RK j
  refine st_0 h (st_13 a ?_ (st_25 b (st_36 c (st_53 d (st_76 e (st_96 f (st_116 g (st_156 i (st_179 j (st_202 k ?_ hK))))))))))
  · rw [rA_far (by decide) (by decide)]
    exact h20
  · have := rMid_far (σ := σ) (q := 32) (by decide) (by decide)
    unfold rMid at this
    rw [this]
    exact h7
noncomputable def f32 : gD := fun Lv σ => match Lv with
  | [some (.ref q0), some (.ref q1)] => cond ((Nat.beq q0 1) && (Nat.beq q1 32)) (some (some (RK σ ∧ (0 ≤ σ 32 7 ∧ σ 32 7 < 20)), none, rTrv σ)) none
  | _ => none
theorem ok32 : gFok 32 f32 := by
  intro Lv σ q h hc K hK
  unfold f32 at h
  split at h
  · rename_i q0 q1
    obtain ⟨hb, h⟩ := c_no h
    obtain ⟨hc1, hb1⟩ := s_and hb
    have hb0 := hc1
    have e0 := b_eq hb0
    subst e0
    have e1 := b_eq hb1
    subst e1
    cases h
    exact s32 (hc _ rfl) hK
  · cases h
noncomputable def gpdt_l : List (Nat × gD) := (32, f32) :: gpds_l
noncomputable def gpdt : gP := gpl0 gpdt_l
theorem gpdt_ok : gPok gpdt := gpl0_cons ok32 (gpds_ok)
end
