/-! THE CLASS: sitting down, exchanging seats -/
noncomputable def gpch_l : List (Nat × gD) := (69, f69) :: (70, f70) :: gpcg_l
noncomputable def gpch : gP := gpl0 gpch_l
theorem gpch_ok : gPok gpch := gpl0_cons ok69 (gpl0_cons ok70 (gpcg_ok))
def cIx (σ : gS) (w : Nat) : Int32 := σ w 1 / 8 * 10 + σ w 3
def cCnt (σ : gS) (p w : Nat) (k : Int32) : gS := if 0 ≤ cIx σ w ∧ cIx σ w < 50 then gup σ (p + 23) (cIx σ w).toNatClampNeg (σ (p + 23) (cIx σ w).toNatClampNeg + k) else σ
def cSit (σ : gS) (p t : Nat) (x : Int32) : gS := cCnt (gup (cCnt σ p (p + 2 + t) (-1)) (p + 2 + t) 1 x) p (p + 2 + t) 1
def cExS (σ : gS) (p a b : Nat) : gS := cSit (cSit σ p a (σ (p + 2 + b) 1)) p b (σ (p + 2 + a) 1)
set_option maxRecDepth 20000 in
theorem w61_6 {σ : gS} {K : gK} {k : Int32} {w : Nat} (h : gTv w ∧ (8 : Int32) ≠ 0 ∧ gTv w ∧ ((((((σ w 1) / 8) * 10) + (σ w 3)) < 0 → K none σ) ∧ (¬ ((((σ w 1) / 8) * 10) + (σ w 3)) < 0 → ((¬ ((((σ w 1) / 8) * 10) + (σ w 3)) < 50 → K none σ) ∧ (((((σ w 1) / 8) * 10) + (σ w 3)) < 50 → (0 ≤ ((((σ w 1) / 8) * 10) + (σ w 3)) ∧ ((((σ w 1) / 8) * 10) + (σ w 3)) < 50) ∧ (0 ≤ ((((σ w 1) / 8) * 10) + (σ w 3)) ∧ ((((σ w 1) / 8) * 10) + (σ w 3)) < 50) ∧ K none (gup σ 29 ((((σ w 1) / 8) * 10) + (σ w 3)).toNatClampNeg ((σ 29 ((((σ w 1) / 8) * 10) + (σ w 3)).toNatClampNeg) + k))))))) : gE 61 0 [some (.ref 6), some (.ref w), some (.int k), none] [] σ K :=
  gw_run (cy := 61) (cuts := []) (inl := []) (pf := gpch) gpch_ok 400 (by decide) h
theorem s61_6 {σ : gS} {K : gK} {w : Nat} {k : Int32} (hc : gTv w) (hK : K none (cCnt σ 6 w k)) : gE 61 0 [some (.ref 6), some (.ref w), some (.int k), none] [] σ K := by
  unfold cCnt cIx at hK
  have h8 : (8 : Int32) ≠ 0 := by decide
  refine w61_6 ?_
  grind
set_option maxRecDepth 20000 in
theorem w61_32 {σ : gS} {K : gK} {k : Int32} {w : Nat} (h : gTv w ∧ (8 : Int32) ≠ 0 ∧ gTv w ∧ ((((((σ w 1) / 8) * 10) + (σ w 3)) < 0 → K none σ) ∧ (¬ ((((σ w 1) / 8) * 10) + (σ w 3)) < 0 → ((¬ ((((σ w 1) / 8) * 10) + (σ w 3)) < 50 → K none σ) ∧ (((((σ w 1) / 8) * 10) + (σ w 3)) < 50 → (0 ≤ ((((σ w 1) / 8) * 10) + (σ w 3)) ∧ ((((σ w 1) / 8) * 10) + (σ w 3)) < 50) ∧ (0 ≤ ((((σ w 1) / 8) * 10) + (σ w 3)) ∧ ((((σ w 1) / 8) * 10) + (σ w 3)) < 50) ∧ K none (gup σ 55 ((((σ w 1) / 8) * 10) + (σ w 3)).toNatClampNeg ((σ 55 ((((σ w 1) / 8) * 10) + (σ w 3)).toNatClampNeg) + k))))))) : gE 61 0 [some (.ref 32), some (.ref w), some (.int k), none] [] σ K :=
  gw_run (cy := 61) (cuts := []) (inl := []) (pf := gpch) gpch_ok 400 (by decide) h
theorem s61_32 {σ : gS} {K : gK} {w : Nat} {k : Int32} (hc : gTv w) (hK : K none (cCnt σ 32 w k)) : gE 61 0 [some (.ref 32), some (.ref w), some (.int k), none] [] σ K := by
  unfold cCnt cIx at hK
  have h8 : (8 : Int32) ≠ 0 := by decide
  refine w61_32 ?_
  grind
noncomputable def f61 : gD := fun Lv σ => match Lv with
  | [some (.ref p), some (.ref w), some (.int k), none] => cond (Nat.beq p 6 || Nat.beq p 32) (some (some (gTv w), none, cCnt σ p w k)) none
  | _ => none
theorem ok61 : gFok 61 f61 := by
  intro Lv σ q h hc K hK
  unfold f61 at h
  split at h
  · rename_i p w k
    obtain ⟨hb, h⟩ := c_no h
    have hb0 := hb
    rcases s_or hb0 with hb0 | hb0
    · have e := b_eq hb0
      subst e
      cases h
      exact s61_6 (hc _ rfl) hK
    · have e := b_eq hb0
      subst e
      cases h
      exact s61_32 (hc _ rfl) hK
  · cases h
noncomputable def gpci_l : List (Nat × gD) := (61, f61) :: gpch_l
noncomputable def gpci : gP := gpl0 gpci_l
theorem gpci_ok : gPok gpci := gpl0_cons ok61 (gpch_ok)
set_option maxRecDepth 20000 in
theorem w83_6 {σ : gS} {K : gK} {t x : Int32} (h : (0 ≤ t ∧ t < 20) ∧ (gTv (6 + 2 + t.toNatClampNeg)) ∧ gTv (6 + 2 + t.toNatClampNeg) ∧ (gTv (6 + 2 + t.toNatClampNeg)) ∧ K none (cCnt (gup (cCnt σ 6 (6 + 2 + t.toNatClampNeg) ((-1) : Int32)) (6 + 2 + t.toNatClampNeg) 1 x) 6 (6 + 2 + t.toNatClampNeg) (1 : Int32))) : gE 83 0 [some (.ref 6), some (.int t), some (.int x), none] [] σ K :=
  gw_run (cy := 83) (cuts := []) (inl := []) (pf := gpci) gpci_ok 400 (by decide) h
theorem s83_6 {σ : gS} {K : gK} {t x : Int32} (hc : 0 ≤ t ∧ t < 20) (hK : K none (cSit σ 6 t.toNatClampNeg x)) : gE 83 0 [some (.ref 6), some (.int t), some (.int x), none] [] σ K := by
  have tv := tv_6 _ (n20 hc)
  exact w83_6 ⟨hc, tv, tv, tv, hK⟩
set_option maxRecDepth 20000 in
theorem w83_32 {σ : gS} {K : gK} {t x : Int32} (h : (0 ≤ t ∧ t < 20) ∧ (gTv (32 + 2 + t.toNatClampNeg)) ∧ gTv (32 + 2 + t.toNatClampNeg) ∧ (gTv (32 + 2 + t.toNatClampNeg)) ∧ K none (cCnt (gup (cCnt σ 32 (32 + 2 + t.toNatClampNeg) ((-1) : Int32)) (32 + 2 + t.toNatClampNeg) 1 x) 32 (32 + 2 + t.toNatClampNeg) (1 : Int32))) : gE 83 0 [some (.ref 32), some (.int t), some (.int x), none] [] σ K :=
  gw_run (cy := 83) (cuts := []) (inl := []) (pf := gpci) gpci_ok 400 (by decide) h
theorem s83_32 {σ : gS} {K : gK} {t x : Int32} (hc : 0 ≤ t ∧ t < 20) (hK : K none (cSit σ 32 t.toNatClampNeg x)) : gE 83 0 [some (.ref 32), some (.int t), some (.int x), none] [] σ K := by
  have tv := tv_32 _ (n20 hc)
  exact w83_32 ⟨hc, tv, tv, tv, hK⟩
noncomputable def f83 : gD := fun Lv σ => match Lv with
  | [some (.ref p), some (.int t), some (.int x), none] => cond (Nat.beq p 6 || Nat.beq p 32) (some (some (0 ≤ t ∧ t < 20), none, cSit σ p t.toNatClampNeg x)) none
  | _ => none
theorem ok83 : gFok 83 f83 := by
  intro Lv σ q h hc K hK
  unfold f83 at h
  split at h
  · rename_i p t x
    obtain ⟨hb, h⟩ := c_no h
    have hb0 := hb
    rcases s_or hb0 with hb0 | hb0
    · have e := b_eq hb0
      subst e
      cases h
      exact s83_6 (hc _ rfl) hK
    · have e := b_eq hb0
      subst e
      cases h
      exact s83_32 (hc _ rfl) hK
  · cases h
noncomputable def gpcj_l : List (Nat × gD) := (83, f83) :: gpci_l
noncomputable def gpcj : gP := gpl0 gpcj_l
theorem gpcj_ok : gPok gpcj := gpl0_cons ok83 (gpci_ok)
theorem cnt_up {P P' : Nat → Bool} {t : Nat} : ∀ {n : Nat}, t < n → (∀ j, j ≠ t → P' j = P j) → cnt P' n + (if P t = true then 1 else 0) = cnt P n + (if P' t = true then 1 else 0)
  | 0, h, _ => absurd h (Nat.not_lt_zero t)
  | n + 1, h, hp => by
    show cnt P' n + (if P' n = true then 1 else 0) + _ = cnt P n + (if P n = true then 1 else 0) + _
    by_cases e : t = n
    · subst e
      rw [cnt_congr (fun j hj => hp j (by omega))]
      omega
    · have ih := cnt_up (show t < n by omega) hp
      rw [hp n (fun q => e q.symm)]
      omega
/-- what sitting down leaves as it was -/
def sFr (σ τ : gS) (p : Nat) : Prop := ∀ q i, (¬ q = p + 23 ∨ 50 ≤ i) → (q < p + 2 ∨ p + 22 ≤ q ∨ ¬ i = 1) → τ q i = σ q i
theorem sFr_t {σ τ ρ : gS} {p : Nat} (h1 : sFr σ τ p) (h2 : sFr τ ρ p) : sFr σ ρ p := fun q i a b => (h2 q i a b).trans (h1 q i a b)
theorem cCnt_eq {σ : gS} {p w a f : Nat} {k : Int32} (ha : a < 5) (hf : f < 10) (h1 : σ w 1 / 8 = iN a) (h2 : σ w 3 = iN f) : cCnt σ p w k = gup σ (p + 23) (a * 10 + f) (σ (p + 23) (a * 10 + f) + k) := by
  unfold cCnt cIx
  have e : (iN a * 10 + iN f : Int32) = iN (a * 10 + f) := by
    show iN a * iN 10 + iN f = _
    rw [iN_mul, iN_add]
  rw [h1, h2, e, iN_nat (by omega), if_pos ⟨(iN_le (k := 0) (by decide) (by omega)).mpr (by omega), (iN_lt (m := 50) (by omega) (by decide)).mpr (by omega)⟩]
/-- sitting down, written out -/
theorem cSit_eq {σ : gS} {p t a0 a1 f : Nat} {x : Int32} (ht : t < 20) (ha0 : a0 < 5) (ha1 : a1 < 5) (hf : f < 10) (h0 : σ (p + 2 + t) 1 / 8 = iN a0) (h1 : x / 8 = iN a1) (h2 : σ (p + 2 + t) 3 = iN f) :
    cSit σ p t x = gup (gup (gup σ (p + 23) (a0 * 10 + f) (σ (p + 23) (a0 * 10 + f) + -1)) (p + 2 + t) 1 x) (p + 23) (a1 * 10 + f) (gup (gup σ (p + 23) (a0 * 10 + f) (σ (p + 23) (a0 * 10 + f) + -1)) (p + 2 + t) 1 x (p + 23) (a1 * 10 + f) + 1) := by
  unfold cSit
  rw [cCnt_eq ha0 hf h0 h2, cCnt_eq ha1 hf (by rw [gup_at]; exact h1) (by rw [gup_ne (by omega), gup_ne (by omega)]; exact h2)]
theorem cR_gup23 {σ : gS} {p i : Nat} {x : Int32} : cR (gup σ (p + 23) i x) p = cR σ p := by
  funext j
  unfold cR
  by_cases h : j < 9
  · rw [if_pos h, if_pos h, gup_ne (by omega)]
  · rw [if_neg h, if_neg h]
    by_cases h2 : j < 209
    · rw [if_pos h2, if_pos h2, gup_ne (by omega), gup_ne (by omega)]
    · rw [if_neg h2, if_neg h2]
theorem cR_gupf {σ : gS} {p t f : Nat} {x : Int32} (ht : t < 20) (hf : f < 9) : cR (gup σ (p + 2 + t) (f + 1) x) p = rup (cR σ p) (9 + 10 * t + f) x := by
  funext j
  unfold rup
  by_cases hj : j = 9 + 10 * t + f
  · rw [if_pos hj, hj]
    have := cR_f (σ := gup σ (p + 2 + t) (f + 1) x) (p := p) ht hf
    unfold fld at this
    rw [this, gup_at]
  · rw [if_neg hj]
    unfold cR
    by_cases h : j < 9
    · rw [if_pos h, if_pos h, gup_ne (by omega)]
    · rw [if_neg h, if_neg h]
      by_cases h2 : j < 209
      · rw [if_pos h2, if_pos h2]
        by_cases h3 : (j - 9) % 10 < 9
        · rw [if_pos h3, if_pos h3, gup_ne (by omega)]
        · rw [if_neg h3, if_neg h3, gup_ne (by omega)]
      · rw [if_neg h2, if_neg h2]
theorem cR_gup0 {σ : gS} {p k : Nat} {x : Int32} (hk : k < 9) : cR (gup σ p (k + 4) x) p = rup (cR σ p) k x := by
  funext j
  unfold rup
  by_cases hj : j = k
  · rw [if_pos hj, hj, cR_h hk, gup_at]
  · rw [if_neg hj]
    unfold cR
    by_cases h : j < 9
    · rw [if_pos h, if_pos h, gup_ne (by omega)]
    · rw [if_neg h, if_neg h]
      by_cases h2 : j < 209
      · rw [if_pos h2, if_pos h2, gup_ne (by omega), gup_ne (by omega)]
      · rw [if_neg h2, if_neg h2]
theorem iN_eq {a b : Nat} (ha : a < 2147483648) (hb : b < 2147483648) (h : ¬ a = b) : ¬ iN a = iN b := fun e => h ((iN_inj ha hb).mp e)
theorem cSit_ok {σ : gS} {p t : Nat} {x : Int32} (h : TC σ p) (ht : t < nM (cR σ p)) (hx : 0 ≤ x ∧ x < 40) : cR (cSit σ p t x) p = rup (cR σ p) (9 + 10 * t + 0) x ∧ TC (cSit σ p t x) p ∧ sFr σ (cSit σ p t x) p := by
  obtain ⟨h3, hb, hm⟩ := h
  have hn := (nM_of h3).2
  obtain ⟨-, hs, hf⟩ := hb t ht
  have e0 := cR_f (σ := σ) (p := p) (t := t) (f := 0) (by omega) (by decide)
  have e2 := cR_f (σ := σ) (p := p) (t := t) (f := 2) (by omega) (by decide)
  obtain ⟨a0, ha0, ea0⟩ := i8 hs
  obtain ⟨a1, ha1, ea1⟩ := i8 hx
  obtain ⟨f, hf2, ef⟩ := i10 hf
  have ec := cSit_eq (σ := σ) (p := p) (t := t) (x := x) (by omega) ha0 ha1 hf2 (by rw [← e0]; exact ea0) ea1 (by rw [← e2]; exact ef)
  have eR : cR (cSit σ p t x) p = rup (cR σ p) (9 + 10 * t + 0) x := by
    rw [ec, cR_gup23, cR_gupf (by omega) (by decide), cR_gup23]
  have fR : ∀ s g, g < 10 → fld (rup (cR σ p) (9 + 10 * t + 0) x) s g = if s = t ∧ g = 0 then x else fld (cR σ p) s g := by
    intro s g hg
    unfold fld rup
    by_cases q : s = t ∧ g = 0
    · rw [if_pos q, if_pos (by omega)]
    · rw [if_neg q, if_neg (by omega)]
  have e3 : cR (cSit σ p t x) p 3 = cR σ p 3 := by rw [eR, rup_ne (by omega)]
  have en : nM (cR (cSit σ p t x) p) = nM (cR σ p) := by unfold nM; rw [e3]
  refine ⟨eR, ⟨by rw [e3]; exact h3, ?_, ?_⟩, ?_⟩
  · intro s hs2
    rw [en] at hs2
    rw [eR, fR _ _ (by decide), fR _ _ (by decide), fR _ _ (by decide), if_neg (show ¬ (s = t ∧ 1 = 0) by omega), if_neg (show ¬ (s = t ∧ 2 = 0) by omega)]
    obtain ⟨b1, b2, b3⟩ := hb s hs2
    refine ⟨b1, ?_, b3⟩
    split
    · exact hx
    · exact b2
  · intro a ha g hg
    unfold mem
    rw [en, eR]
    have hP : ∀ j, memP (rup (cR σ p) (9 + 10 * t + 0) x) (iN a) (iN g) j = if j = t then decide (a1 = a ∧ f = g) else memP (cR σ p) (iN a) (iN g) j := by
      intro j
      unfold memP
      rw [fR _ _ (by decide), fR _ _ (by decide), if_neg (show ¬ (j = t ∧ 2 = 0) by omega)]
      by_cases q : j = t
      · rw [if_pos ⟨q, rfl⟩, if_pos q, q, ef, ea1]
        congr 1
        apply propext
        rw [iN_inj (by omega) (by omega), iN_inj (by omega) (by omega)]
      · rw [if_neg (fun e => q e.1), if_neg q]
    have hu := cnt_up (P := memP (cR σ p) (iN a) (iN g)) (P' := memP (rup (cR σ p) (9 + 10 * t + 0) x) (iN a) (iN g)) ht (fun j hj => by rw [hP, if_neg hj])
    have hPt : memP (cR σ p) (iN a) (iN g) t = decide (a0 = a ∧ f = g) := by
      unfold memP
      rw [ea0, ef]
      congr 1
      apply propext
      rw [iN_inj (by omega) (by omega), iN_inj (by omega) (by omega)]
    rw [hPt, hP, if_pos rfl] at hu
    have h1 := hm a ha g hg
    unfold mem at h1
    have hle := cnt_le (memP (cR σ p) (iN a) (iN g)) (nM (cR σ p))
    have hsub : ∀ m : Nat, 1 ≤ m → m < 100 → iN m + -1 = iN (m - 1) := fun m hm1 hm2 => by
      rw [← Int32.sub_eq_add_neg]
      exact iN_sub (d := 1) (by omega) hm1
    rw [ec]
    by_cases q0 : a0 = a ∧ f = g <;> by_cases q1 : a1 = a ∧ f = g
    · rw [decide_eq_true q0, decide_eq_true q1] at hu
      obtain ⟨rfl, rfl⟩ := q0
      obtain ⟨rfl, -⟩ := q1
      rw [gup_at, gup_ne (by omega), gup_at, h1]
      rw [if_pos rfl] at hu
      have : cnt (memP (rup (cR σ p) (9 + 10 * t + 0) x) (iN a1) (iN f)) (nM (cR σ p)) = cnt (memP (cR σ p) (iN a1) (iN f)) (nM (cR σ p)) := by omega
      rw [this]
      grind
    · rw [decide_eq_true q0, decide_eq_false q1] at hu
      rw [if_pos rfl, if_neg (by decide)] at hu
      obtain ⟨rfl, rfl⟩ := q0
      have ne : ¬ a0 * 10 + f = a1 * 10 + f := fun e => q1 ⟨by omega, rfl⟩
      rw [gup_ne (fun e => ne e.2), gup_ne (by omega), gup_at, h1, hsub _ (by omega) (by omega)]
      congr 1
      omega
    · rw [decide_eq_false q0, decide_eq_true q1] at hu
      rw [if_pos rfl, if_neg (by decide)] at hu
      obtain ⟨rfl, rfl⟩ := q1
      have ne : ¬ a1 * 10 + f = a0 * 10 + f := fun e => q0 ⟨by omega, rfl⟩
      rw [gup_at, gup_ne (by omega), gup_ne (fun e => ne e.2), h1, iN_one]
      congr 1
      omega
    · rw [decide_eq_false q0, decide_eq_false q1] at hu
      rw [if_neg (by decide)] at hu
      have n0 : ¬ a * 10 + g = a0 * 10 + f := fun e => q0 ⟨by omega, by omega⟩
      have n1 : ¬ a * 10 + g = a1 * 10 + f := fun e => q1 ⟨by omega, by omega⟩
      rw [gup_ne (fun e => n1 e.2), gup_ne (by omega), gup_ne (fun e => n0 e.2), h1]
      congr 1
      omega
  · intro q i hq hq2
    have ne : ∀ m, m < 50 → ¬ (q = p + 23 ∧ i = m) := fun m hm e => hq.elim (fun h => h e.1) (fun h => by omega)
    rw [ec, gup_ne (ne _ (by omega)), gup_ne (fun e => by omega), gup_ne (ne _ (by omega))]
/-- two heaps with the same rows, sound, that differ in seats and members alone, are the same -/
theorem sFr_eq {σ τ : gS} {p : Nat} (h1 : TC σ p) (h2 : TC τ p) (hR : cR τ p = cR σ p) (hf : sFr σ τ p) : τ = σ := by
  funext q i
  by_cases hq : q = p + 23 ∧ i < 50
  · obtain ⟨rfl, hi⟩ := hq
    have e1 := h1.2.2 (i / 10) (by omega) (i % 10) (by omega)
    have e2 := h2.2.2 (i / 10) (by omega) (i % 10) (by omega)
    rw [show i / 10 * 10 + i % 10 = i by omega] at e1 e2
    rw [e1, e2, hR]
  · by_cases hq2 : p + 2 ≤ q ∧ q < p + 22 ∧ i = 1
    · obtain ⟨ha, hb, rfl⟩ := hq2
      have e1 := cR_f (σ := σ) (p := p) (t := q - (p + 2)) (f := 0) (by omega) (by decide)
      have e2 := cR_f (σ := τ) (p := p) (t := q - (p + 2)) (f := 0) (by omega) (by decide)
      rw [show p + 2 + (q - (p + 2)) = q by omega] at e1 e2
      rw [← e1, ← e2, hR]
    · exact hf q i (by omega) (by omega)
