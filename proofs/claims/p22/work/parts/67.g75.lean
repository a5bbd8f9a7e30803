-- text 75
/-! RELATION: truncate, station -/
theorem GR_trunc {B : Nat} {σ : gS} {n : Int32} (h : GR B σ) : (∀ q, 323 ≤ q → clU σ n q = σ q) ∧ (if 0 ≤ n ∧ n ≤ σ 2 1 then σ 2 1 - n else -1) = (if gTru (σ 323 8) n then σ 323 8 - n else -1) ∧ GR B (if gTru (clU σ n 323 8) n then grow (clU σ n) 323 (rup (clU σ n 323) 8 (clU σ n 323 8 - n)) else clU σ n) := by
  have g5 := h.2.2.2.2.1
  obtain ⟨hL, h8, hT⟩ := g5
  obtain ⟨eL, l⟩ := l1000 hL
  obtain ⟨L, hLL⟩ : ∃ L, (σ 2 1).toNatClampNeg = L := ⟨_, rfl⟩
  have hi : ∀ q, 323 ≤ q → clU σ n q = σ q := by
    intro q hq
    unfold clU
    split
    · funext j; exact gup_ne (by omega)
    · rfl
  have hg : gTru (σ 323 8) n ↔ (0 ≤ n ∧ n ≤ σ 2 1) := by unfold gTru; rw [h8, Int32.not_lt, Int32.not_lt]
  refine ⟨hi, ?_, ?_⟩
  · by_cases q : 0 ≤ n ∧ n ≤ σ 2 1
    · rw [if_pos q, if_pos (hg.mpr q), h8]
    · rw [if_neg q, if_neg (fun z => q (hg.mp z))]
  · rw [hi 323 (by decide)]
    by_cases q : 0 ≤ n ∧ n ≤ σ 2 1
    · rw [if_pos (hg.mpr q)]
      unfold clU
      rw [if_pos q]
      rw [hLL] at eL l hT
      obtain ⟨en, ln⟩ := iN_of q.1
      obtain ⟨k, hk⟩ : ∃ k, n.toNatClampNeg = k := ⟨_, rfl⟩
      rw [hk] at en ln
      have kL : k ≤ L := by
        have := q.2
        rw [en, eL] at this
        exact (iN_le ln (by omega)).mp this
      have eD : σ 2 1 - n = iN (L - k) := by
        rw [eL, en]
        exact iN_sub (by omega) (by omega)
      rw [h8, eD]
      obtain ⟨τ, hτ⟩ : ∃ τ, grow (gup σ 2 1 (iN (L - k))) 323 (rup (σ 323) 8 (iN (L - k))) = τ := ⟨_, rfl⟩
      rw [hτ]
      have t2 : τ 2 1 = iN (L - k) := by rw [← hτ, grow_ne (by decide), gup_at]
      have t323 : τ 323 = rup (σ 323) 8 (iN (L - k)) := by rw [← hτ, grow_at]
      have tq : ∀ q, ¬ q = 2 → ¬ q = 323 → τ q = σ q := fun q q2 q3 => by
        rw [← hτ, grow_ne q3]
        funext j
        exact gup_ne (by omega)
      refine GR_tap h (fun q q2 q3 q4 q5 => tq q q2 q4) (fun j hj => by rw [t323, rup_ne hj]) ⟨?_, ?_, fun i hi2 => ?_⟩
      · rw [t2]
        exact ⟨(iN_le (k := 0) (by decide) (by omega)).mpr (by omega), (iN_le (m := 1000) (by omega) (by decide)).mpr (by omega)⟩
      · rw [t2, t323, rup_at]
      · rw [t2, iN_nat (by omega)] at hi2
        rw [tq 330 (by decide) (by decide), tq 3 (by decide) (by decide)]
        exact hT i (by omega)
    · rw [if_neg (fun z => q (hg.mp z))]
      unfold clU
      rw [if_neg q]
      exact h
theorem cOff_far {σ : gS} {t q : Nat} (h7 : 0 ≤ σ 6 7 ∧ σ 6 7 ≤ 20) (ht : t < 20) (h : q < 6 ∨ 32 ≤ q) : cOff σ t q = σ q := by
  have l := (c20 h7).2
  funext j
  unfold cOff cOut
  rw [gup_ne (by omega), cSh_e, if_neg (by omega), gup_ne (by omega), cCnt_off (by omega), cAdd_far (by omega) (by omega)]
theorem go_far {q : Nat} (h : q < 6 ∨ 32 ≤ q) : ∀ {k : Nat} {σ : gS} {R : gW}, SV σ 6 R → k ≤ nM R → cGoN k σ q = σ q
  | 0, _, _, _, _ => rfl
  | k + 1, σ, R, hS, hk => by
    obtain ⟨s1, s2⟩ := SV_go1 hS (k := k) (by omega)
    obtain ⟨b3, bn, e7⟩ := SV_3 hS
    have i := go_far h (k := k) s1 s2
    show cGoN k _ q = σ q
    rw [i]
    split
    · exact cOff_far (by rw [e7]; exact b3) (by omega) h
    · rfl
theorem goM_far {q : Nat} {σ : gS} {R : gW} (h : q < 6 ∨ 32 ≤ q) (hS : SV σ 6 R) : ∀ k, cGoM k σ q = σ q
  | 0 => rfl
  | k + 1 => by
    have i := goM_far h hS k
    have s := SV_goM hS (k := k)
    have e7 := (SV_3 s).2.2
    show cGo (cGoM k σ) q = σ q
    unfold cGo
    rw [show (cGoM k σ 6 7).toNatClampNeg = nM (stm k R) from by rw [e7]; rfl, go_far h (SV_time s) (by rw [nM_radd2]; exact Nat.le_refl _)]
    rw [← i]
    funext j
    exact gup_ne (by omega)
theorem zR_off {R : gW} {t : Nat} (h : zR R) (hb : bN R) (ht : t < nM R) : zR (fOff R t) := fun j hj => by
  have hn := (nM_of hb.1).2
  unfold fOff
  rw [radd_ne (by omega), csh_lo (by omega), radd_ne (by omega), fTe_ne hb.2 (Or.inr hj)]
  exact h j hj
theorem zR_stpN : ∀ {k : Nat} {R : gW}, zR R → bN R → k ≤ nM R → zR (stpN k R)
  | 0, R, h, _, _ => h
  | k + 1, R, h, hb, hk => by
    obtain ⟨b1, b2⟩ := stp1_b hb (k := k) (by omega)
    have z : zR (stp1 R k) := by
      unfold stp1
      split
      · exact zR_off h hb (by omega)
      · exact h
    exact zR_stpN (k := k) z b1 b2
theorem zR_stm {R : gW} (h : zR R) (hb : bN R) : ∀ k, zR (stm k R)
  | 0 => h
  | k + 1 => by
    have i := zR_stm h hb k
    have b := (stm_sum hb k).2
    have b2 : bN (radd (stm k R) 2 1) := ⟨by rw [radd_ne (by decide)]; exact b.1, by rw [radd_ne (by decide)]; exact b.2⟩
    exact zR_stpN (zR_rup i (by decide)) b2 (by rw [nM_radd2]; exact Nat.le_refl _)
def clN (σ : gS) (m : Int32) : gS := if 1 ≤ m ∧ m ≤ 50 then (if 999 < σ 6 6 + m then σ else cGoM m.toNatClampNeg (cRem σ)) else σ
theorem GR_station {B : Nat} {σ : gS} {m : Int32} (h : GR B σ) : (∀ q, 323 ≤ q → clN σ m q = σ q) ∧ (if 1 ≤ m ∧ m ≤ 50 then (if 999 < σ 6 6 + m then -3 else σ 6 7 - cGoM m.toNatClampNeg (cRem σ) 6 7) else -1) = aSta (σ 324) m ∧ GR B (hOp (clN σ m) (gSta (σ 324) m) (stm m.toNatClampNeg (σ 324))) := by
  have h' := h
  obtain ⟨g1, g2, g3, g4, g5, g6, g7, g8, g9⟩ := h'
  obtain ⟨b3, bn, e7⟩ := SV_3 g1
  have h7 : 0 ≤ σ 6 7 ∧ σ 6 7 ≤ 20 := by rw [e7]; exact b3
  have e2 : σ 6 6 = σ 324 2 := by
    have := g1.1.1 2 (by decide)
    rw [cR_h (by decide)] at this
    exact this
  have sM := SV_goM (SV_rem g1) (k := m.toNatClampNeg)
  have far : ∀ q, q < 6 ∨ 32 ≤ q → cGoM m.toNatClampNeg (cRem σ) q = cRem σ q := fun q hq => goM_far hq (SV_rem g1) _
  have hi : ∀ q, 323 ≤ q → clN σ m q = σ q := by
    intro q hq
    unfold clN
    split
    · split
      · rfl
      · rw [far q (by omega), cRem_far (Or.inr hq) h7]
    · rfl
  have eg : gSta (σ 324) m ↔ ((1 ≤ m ∧ m ≤ 50) ∧ ¬ 999 < σ 6 6 + m) := by unfold gSta; rw [e2]
  refine ⟨hi, ?_, ?_⟩
  · unfold aSta
    rw [e2]
    by_cases q : 1 ≤ m ∧ m ≤ 50
    · rw [if_pos q, if_pos q]
      by_cases q2 : 999 < σ 324 2 + m
      · rw [if_pos q2, if_pos q2]
      · rw [if_neg q2, if_neg q2, (SV_3 sM).2.2, e7]
        have := (stm_sum g7.1 m.toNatClampNeg).1
        grind
    · rw [if_neg q, if_neg q]
  · unfold hOp clN
    by_cases q : gSta (σ 324) m
    · have q' := eg.mp q
      rw [if_pos q, if_pos q'.1, if_neg q'.2]
      exact GR_call h (Nat.le_refl _) far sM (GD_stm g2 g7.1 _).1 (zR_stm g8.1 g7.1 _)
    · rw [if_neg q]
      by_cases q1 : 1 ≤ m ∧ m ≤ 50
      · rw [if_pos q1]
        by_cases q2 : 999 < σ 6 6 + m
        · rw [if_pos q2]; exact h
        · exact absurd (eg.mpr ⟨q1, q2⟩) q
      · rw [if_neg q1]; exact h
-- text 76
/-! RELATION: keep, restore, undo -/
theorem zR_rowAt (E : gW) (u : Nat) : zR (rowAt E u) := fun j hj => by unfold rowAt; rw [if_neg (by omega)]
/-- the slots alone change -/
theorem GR_slo {B : Nat} {σ τ : gS} (h : GR B σ) (hq : ∀ q, (q < 60 ∨ 113 ≤ q) → ¬ q = 328 → ¬ q = 329 → τ q = σ q) (hS : SL B τ) : GR B τ := by
  obtain ⟨g1, g2, g3, g4, g5, g6, g7, g8, g9⟩ := h
  have e := fun q (h1 : q < 60 ∨ 113 ≤ q) (h2 : ¬ q = 328) (h3 : ¬ q = 329) => hq q h1 h2 h3
  have e324 := e 324 (by decide) (by decide) (by decide)
  have e323 := e 323 (by decide) (by decide) (by decide)
  refine ⟨?_, by rw [e324]; exact g2, ?_, hS, ?_, ?_, ?_, ?_, ?_⟩
  · rw [e324]
    exact SV_blk g1 (fun q q1 q2 => e q (by omega) (by omega) (by omega))
  · obtain ⟨⟨p1, p2, p3⟩, p4, p5⟩ := g3
    have e113 := e 113 (by decide) (by decide) (by decide)
    have e327 := e 327 (by decide) (by decide) (by decide)
    have eP : ∀ u, cPl τ u = cPl σ u := fun u => by unfold cPl; rw [e113]
    have hm : ∀ u, ((σ 113 1).toNatClampNeg + u) % 8 < 8 := fun u => Nat.mod_lt _ (by decide)
    refine ⟨⟨by unfold bPa; rw [e113]; exact p1, by rw [e113, e323]; exact p2, fun u hu => ?_⟩, fun u hu => ?_, fun j hj => ?_⟩
    · rw [e113] at hu
      rw [eP, e327]
      refine SV_blk (p3 u hu) (fun q q1 q2 => ?_)
      have := hm u
      unfold cPl at q1 q2
      exact e q (by omega) (by omega) (by omega)
    · rw [e113] at hu
      rw [e327]
      exact p4 u hu
    · rw [e _ (by omega) (by omega) (by omega)]
      exact p5 j hj
  · unfold TP
    rw [e 2 (by decide) (by decide) (by decide), e 3 (by decide) (by decide) (by decide), e323, e 330 (by decide) (by decide) (by decide)]
    exact g5
  · rw [e 0 (by decide) (by decide) (by decide), e323]
    exact g6
  · unfold RS
    rw [e324, e323]
    exact g7
  · unfold RZ
    rw [e324, e 325 (by decide) (by decide) (by decide), e 326 (by decide) (by decide) (by decide)]
    exact g8
  · unfold RT
    rw [e323]
    exact g9
def clK (σ : gS) (f : Int32) : gS := if isSl f then gup (cCo σ (60 + 26 * f.toNatClampNeg) 6) 112 f.toNatClampNeg 1 else σ
theorem GR_keep {B : Nat} {σ : gS} {f : Int32} (h : GR B σ) : (∀ q, 323 ≤ q → clK σ f q = σ q) ∧ (if isSl f then σ 6 7 else -1) = (if isSl f then σ 324 3 else -1) ∧ GR B (if isSl f then hKp (clK σ f) f.toNatClampNeg else clK σ f) := by
  have h' := h
  obtain ⟨g1, g2, g3, g4, g5, g6, g7, g8, g9⟩ := h'
  obtain ⟨b3, bn, e7⟩ := SV_3 g1
  have n7 : (σ 6 7).toNatClampNeg ≤ 20 := by rw [e7]; exact bn
  by_cases hf : isSl f
  · obtain ⟨ef, lf⟩ := s01 hf
    obtain ⟨m, hm⟩ : ∃ m, f.toNatClampNeg = m := ⟨_, rfl⟩
    rw [hm] at ef lf
    have m2 : m < 2 := by omega
    have hi0 : ∀ q, q < 60 ∨ 113 ≤ q → clK σ f q = σ q := by
      intro q hq
      unfold clK
      rw [if_pos hf, hm]
      funext j
      rw [gup_ne (by omega), cCo_far (by omega) n7]
    refine ⟨fun q hq => hi0 q (by omega), by rw [if_pos hf, if_pos hf, e7], ?_⟩
    rw [if_pos hf, hm]
    obtain ⟨τ, hτ⟩ : ∃ τ, hKp (clK σ f) m = τ := ⟨_, rfl⟩
    have t : ∀ q, ¬ q = 328 → ¬ q = 329 → τ q = clK σ f q := fun q q1 q2 => by rw [← hτ]; unfold hKp; rw [grow_ne q2, grow_ne q1]
    have t328 : τ 328 = rla (σ 324) (σ 328) 0 (330 * m) 330 := by
      rw [← hτ]
      unfold hKp
      rw [grow_ne (by decide), grow_at, hi0 324 (by decide), hi0 328 (by decide)]
    have t329 : τ 329 = rup (σ 329) m 1 := by
      rw [← hτ]
      unfold hKp
      rw [grow_at, hi0 329 (by decide)]
    rw [hτ]
    refine GR_slo h (fun q q1 q2 q3 => by rw [t q q2 q3]; exact hi0 q q1) ?_
    intro s hs
    obtain ⟨a1, a2, a3⟩ := g4 s hs
    have c112 : τ 112 s = if s = m then 1 else σ 112 s := by
      rw [t 112 (by decide) (by decide)]
      unfold clK
      rw [if_pos hf, hm]
      by_cases q : s = m
      · subst q; rw [gup_at, if_pos rfl]
      · rw [gup_ne (by omega), cCo_far (by omega) n7, if_neg q]
    have blk : ∀ q, 60 ≤ q → q < 112 → τ q = cCo σ (60 + 26 * m) 6 q := by
      intro q q1 q2
      rw [t q (by omega) (by omega)]
      unfold clK
      rw [if_pos hf, hm]
      funext j
      exact gup_ne (by omega)
    by_cases q : s = m
    · subst q
      have sC := cCo_ok (p := 60 + 26 * s) (q := 6) (by omega) g1
      have er : ∀ j, j < 330 → rowAt (τ 328) s j = σ 324 j := fun j hj => by rw [t328, rowAt_lt hj, rla_in hj]
      refine ⟨by rw [c112, if_pos rfl, t329, rup_at], ?_, fun _ => ⟨?_, GD_row g2 b3 er⟩⟩
      · rw [blk _ (by omega) (by omega), (SV_3 sC).2.2]
        exact b3
      · exact SV_blk (SV_row sC er) (fun q q1 q2 => blk q (by omega) (by omega))
    · have er : rowAt (τ 328) s = rowAt (σ 328) s := by
        funext j
        rw [t328]
        unfold rowAt
        split
        · unfold rla
          rw [if_neg (by omega)]
        · rfl
      have bs : ∀ q, 60 + 26 * s ≤ q → q < 60 + 26 * s + 26 → τ q = σ q := by
        intro q q1 q2
        rw [blk q (by omega) (by omega)]
        funext j
        exact cCo_far (by omega) n7
      refine ⟨by rw [c112, if_neg q, t329, rup_ne q]; exact a1, by rw [bs _ (by omega) (by omega)]; exact a2, fun z => ?_⟩
      rw [c112, if_neg q] at z
      obtain ⟨c1, c2⟩ := a3 z
      rw [er]
      exact ⟨SV_blk c1 bs, c2⟩
  · unfold clK
    rw [if_neg hf, if_neg hf, if_neg hf, if_neg hf]
    exact ⟨fun q _ => rfl, rfl, h⟩
def clV (σ : gS) (f : Int32) : gS := if isSl f ∧ ¬ σ 112 f.toNatClampNeg = 0 then cCo (cRem σ) 6 (60 + 26 * f.toNatClampNeg) else σ
theorem GR_restore {B : Nat} {σ : gS} {f : Int32} (h : GR B σ) : (∀ q, 323 ≤ q → clV σ f q = σ q) ∧ (if isSl f then (if σ 112 f.toNatClampNeg = 0 then -2 else σ (60 + 26 * f.toNatClampNeg) 7) else -1) = aRes σ f ∧ GR B (hOp (clV σ f) (gRes σ f) (rowAt (σ 328) f.toNatClampNeg)) := by
  have h' := h
  obtain ⟨g1, g2, g3, g4, g5, g6, g7, g8, g9⟩ := h'
  obtain ⟨b3, bn, e7⟩ := SV_3 g1
  have h7 : 0 ≤ σ 6 7 ∧ σ 6 7 ≤ 20 := by rw [e7]; exact b3
  unfold aRes hOp clV
  by_cases hf : isSl f
  · obtain ⟨ef, lf⟩ := s01 hf
    obtain ⟨a1, a2, a3⟩ := g4 f.toNatClampNeg (by omega)
    by_cases z : σ 112 f.toNatClampNeg = 0
    · have z2 : σ 329 f.toNatClampNeg = 0 := by rw [← a1]; exact z
      rw [if_pos hf, if_pos hf, if_pos z, if_pos z2, if_neg (fun q => q.2 z), if_neg (show ¬ gRes σ f from fun q => q.2 (z2))]
      exact ⟨fun q _ => rfl, rfl, h⟩
    · have z2 : ¬ σ 329 f.toNatClampNeg = 0 := by rw [← a1]; exact z
      obtain ⟨c1, c2⟩ := a3 z
      rw [if_pos hf, if_pos hf, if_neg z, if_neg z2, if_pos ⟨hf, z⟩, if_pos (show gRes σ f from ⟨hf, z2⟩)]
      have sR : SV (cRem σ) (60 + 26 * f.toNatClampNeg) (rowAt (σ 328) f.toNatClampNeg) := SV_blk c1 (fun q q1 q2 => cRem_far (Or.inl (by omega)) h7)
      have nR : (cRem σ (60 + 26 * f.toNatClampNeg) 7).toNatClampNeg ≤ 20 := by
        rw [cRem_far (Or.inl (by omega)) h7]
        exact (c20 a2).2
      have sC := cCo_ok (p := 6) (q := 60 + 26 * f.toNatClampNeg) (by omega) sR
      have far : ∀ q, q < 6 ∨ 32 ≤ q → cCo (cRem σ) 6 (60 + 26 * f.toNatClampNeg) q = cRem σ q := fun q hq => by
        funext j
        exact cCo_far (by omega) nR
      refine ⟨fun q hq => by rw [far q (by omega), cRem_far (Or.inr hq) h7], (SV_3 c1).2.2, ?_⟩
      exact GR_call h (Nat.le_refl _) far sC c2 (zR_rowAt _ _)
  · rw [if_neg hf, if_neg hf, if_neg (fun q => hf q.1), if_neg (show ¬ gRes σ f from fun q => hf q.1)]
    exact ⟨fun q _ => rfl, rfl, h⟩
