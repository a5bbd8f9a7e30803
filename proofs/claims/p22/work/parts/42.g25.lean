-- text 25
/-! THE CLASS: sitting down, exchanging seats -/
noncomputable def gpch_l : List (Nat × gD) := (69, f69) :: (70, f70) :: gpcg_l
noncomputable def gpch : gP := gpl0 gpch_l
theorem gpch_ok : gPok gpch := gpl0_cons ok69 (gpl0_cons ok70 (gpcg_ok))
def cIx (σ : gS) (w : Nat) : Int32 := σ w 1 / 8 * 10 + σ w 3
def cCnt (σ : gS) (p w : Nat) (k : Int32) : gS := if 0 ≤ cIx σ w ∧ cIx σ w < 50 then gup σ (p + 23) (cIx σ w).toNatClampNeg (σ (p + 23) (cIx σ w).toNatClampNeg + k) else σ
def cSit (σ : gS) (p t : Nat) (x : Int32) : gS := cCnt (gup (cCnt σ p (p + 2 + t) (-1)) (p + 2 + t) 1 x) p (p + 2 + t) 1
def cExS (σ : gS) (p a b : Nat) : gS := cSit (cSit σ p a (σ (p + 2 + b) 1)) p b (σ (p + 2 + a) 1)
set_option maxRecDepth 20000 in
theorem w61_6 {σ : gS} {K : gK} {k : Int32} {w : Nat} (h : gTv w ∧ (8 : Int32) ≠ 0 ∧ gTv w ∧ ((((((σ w 1) / 8) * 10) + (σ w 3)) < 0 → K none σ) ∧ (¬ ((((σ w 1) / 8) * 10) + (σ w 3)) < 0 → ((¬ ((((σ w 1) / 8) * 10) + (σ w 3)) < 50 → K none σ) ∧ (((((σ w 1) / 8) * 10) + (σ w 3)) < 50 → (0 ≤ ((((σ w 1) / 8) * 10) + (σ w 3)) ∧ ((((σ w 1) / 8) * 10) + (σ w 3)) < 50) ∧ (0 ≤ ((((σ w 1) / 8) * 10) + (σ w 3)) ∧ ((((σ w 1) / 8) * 10) + (σ w 3)) < 50) ∧ K none (gup σ 29 ((((σ w 1) / 8) * 10) + (σ w 3)).toNatClampNeg ((σ 29 ((((σ w 1) / 8) * 10) + (σ w 3)).toNatClampNeg) + k))))))) : gE 61 0 [some (.ref 6), some (.ref w), some (.int k), none] [] σ K :=
  gw_run (cy := 61) (cuts := []) (inl := []) (pf := gpch) gpch_ok 400 (by decide) h
theorem s61_6 {σ : gS} {K : gK} {w : Nat} {k : Int32} (hc : gTv w) (hK : K none (cCnt σ 6 w k)) : gE 61 0 [some (.ref 6), some (.ref w), some (.int k), none] [] σ K := by
  unfold cCnt cIx at hK
  have h8 : (8 : Int32) ≠ 0 := by decide
  refine w61_6 ?_
  grind
set_option maxRecDepth 20000 in
theorem w61_32 {σ : gS} {K : gK} {k : Int32} {w : Nat} (h : gTv w ∧ (8 : Int32) ≠ 0 ∧ gTv w ∧ ((((((σ w 1) / 8) * 10) + (σ w 3)) < 0 → K none σ) ∧ (¬ ((((σ w 1) / 8) * 10) + (σ w 3)) < 0 → ((¬ ((((σ w 1) / 8) * 10) + (σ w 3)) < 50 → K none σ) ∧ (((((σ w 1) / 8) * 10) + (σ w 3)) < 50 → (0 ≤ ((((σ w 1) / 8) * 10) + (σ w 3)) ∧ ((((σ w 1) / 8) * 10) + (σ w 3)) < 50) ∧ (0 ≤ ((((σ w 1) / 8) * 10) + (σ w 3)) ∧ ((((σ w 1) / 8) * 10) + (σ w 3)) < 50) ∧ K none (gup σ 55 ((((σ w 1) / 8) * 10) + (σ w 3)).toNatClampNeg ((σ 55 ((((σ w 1) / 8) * 10) + (σ w 3)).toNatClampNeg) + k))))))) : gE 61 0 [some (.ref 32), some (.ref w), some (.int k), none] [] σ K :=
  gw_run (cy := 61) (cuts := []) (inl := []) (pf := gpch) gpch_ok 400 (by decide) h
theorem s61_32 {σ : gS} {K : gK} {w : Nat} {k : Int32} (hc : gTv w) (hK : K none (cCnt σ 32 w k)) : gE 61 0 [some (.ref 32), some (.ref w), some (.int k), none] [] σ K := by
  unfold cCnt cIx at hK
  have h8 : (8 : Int32) ≠ 0 := by decide
  refine w61_32 ?_
  grind
noncomputable def f61 : gD := fun Lv σ => match Lv with
  | [some (.ref p), some (.ref w), some (.int k), none] => cond (Nat.beq p 6 || Nat.beq p 32) (some (some (gTv w), none, cCnt σ p w k)) none
  | _ => none
theorem ok61 : gFok 61 f61 := by
  intro Lv σ q h hc K hK
  unfold f61 at h
  split at h
  · rename_i p w k
    obtain ⟨hb, h⟩ := c_no h
    have hb0 := hb
    rcases s_or hb0 with hb0 | hb0
    · have e := b_eq hb0
      subst e
      cases h
      exact s61_6 (hc _ rfl) hK
    · have e := b_eq hb0
      subst e
      cases h
      exact s61_32 (hc _ rfl) hK
  · cases h
noncomputable def gpci_l : List (Nat × gD) := (61, f61) :: gpch_l
noncomputable def gpci : gP := gpl0 gpci_l
theorem gpci_ok : gPok gpci := gpl0_cons ok61 (gpch_ok)
set_option maxRecDepth 20000 in
theorem w83_6 {σ : gS} {K : gK} {t x : Int32} (h : (0 ≤ t ∧ t < 20) ∧ (gTv (6 + 2 + t.toNatClampNeg)) ∧ gTv (6 + 2 + t.toNatClampNeg) ∧ (gTv (6 + 2 + t.toNatClampNeg)) ∧ K none (cCnt (gup (cCnt σ 6 (6 + 2 + t.toNatClampNeg) ((-1) : Int32)) (6 + 2 + t.toNatClampNeg) 1 x) 6 (6 + 2 + t.toNatClampNeg) (1 : Int32))) : gE 83 0 [some (.ref 6), some (.int t), some (.int x), none] [] σ K :=
  gw_run (cy := 83) (cuts := []) (inl := []) (pf := gpci) gpci_ok 400 (by decide) h
theorem s83_6 {σ : gS} {K : gK} {t x : Int32} (hc : 0 ≤ t ∧ t < 20) (hK : K none (cSit σ 6 t.toNatClampNeg x)) : gE 83 0 [some (.ref 6), some (.int t), some (.int x), none] [] σ K := by
  have tv := tv_6 _ (n20 hc)
  exact w83_6 ⟨hc, tv, tv, tv, hK⟩
set_option maxRecDepth 20000 in
theorem w83_32 {σ : gS} {K : gK} {t x : Int32} (h : (0 ≤ t ∧ t < 20) ∧ (gTv (32 + 2 + t.toNatClampNeg)) ∧ gTv (32 + 2 + t.toNatClampNeg) ∧ (gTv (32 + 2 + t.toNatClampNeg)) ∧ K none (cCnt (gup (cCnt σ 32 (32 + 2 + t.toNatClampNeg) ((-1) : Int32)) (32 + 2 + t.toNatClampNeg) 1 x) 32 (32 + 2 + t.toNatClampNeg) (1 : Int32))) : gE 83 0 [some (.ref 32), some (.int t), some (.int x), none] [] σ K :=
  gw_run (cy := 83) (cuts := []) (inl := []) (pf := gpci) gpci_ok 400 (by decide) h
theorem s83_32 {σ : gS} {K : gK} {t x : Int32} (hc : 0 ≤ t ∧ t < 20) (hK : K none (cSit σ 32 t.toNatClampNeg x)) : gE 83 0 [some (.ref 32), some (.int t), some (.int x), none] [] σ K := by
  have tv := tv_32 _ (n20 hc)
  exact w83_32 ⟨hc, tv, tv, tv, hK⟩
noncomputable def f83 : gD := fun Lv σ => match Lv with
  | [some (.ref p), some (.int t), some (.int x), none] => cond (Nat.beq p 6 || Nat.beq p 32) (some (some (0 ≤ t ∧ t < 20), none, cSit σ p t.toNatClampNeg x)) none
  | _ => none
theorem ok83 : gFok 83 f83 := by
  intro Lv σ q h hc K hK
  unfold f83 at h
  split at h
  · rename_i p t x
    obtain ⟨hb, h⟩ := c_no h
    have hb0 := hb
    rcases s_or hb0 with hb0 | hb0
    · have e := b_eq hb0
      subst e
      cases h
      exact s83_6 (hc _ rfl) hK
    · have e := b_eq hb0
      subst e
      cases h
      exact s83_32 (hc _ rfl) hK
  · cases h
noncomputable def gpcj_l : List (Nat × gD) := (83, f83) :: gpci_l
noncomputable def gpcj : gP := gpl0 gpcj_l
theorem gpcj_ok : gPok gpcj := gpl0_cons ok83 (gpci_ok)
noncomputable def f83V (cSitV : gS → Nat → Nat → Int32 → gS) : gD := fun Lv σ => match Lv with
  | [some (.ref p), some (.int t), some (.int x), none] => cond (Nat.beq p 6 || Nat.beq p 32) (some (some (0 ≤ t ∧ t < 20), none, cSitV σ p t.toNatClampNeg x)) none
  | _ => none
noncomputable def gpcjV (cSitV : gS → Nat → Nat → Int32 → gS) : gP := gpl0 ((83, f83V cSitV) :: gpci_l)
theorem cnt_up {P P' : Nat → Bool} {t : Nat} : ∀ {n : Nat}, t < n → (∀ j, j ≠ t → P' j = P j) → cnt P' n + (if P t = true then 1 else 0) = cnt P n + (if P' t = true then 1 else 0)
  | 0, h, _ => absurd h (Nat.not_lt_zero t)
  | n + 1, h, hp => by
    show cnt P' n + (if P' n = true then 1 else 0) + _ = cnt P n + (if P n = true then 1 else 0) + _
    by_cases e : t = n
    · subst e
      rw [cnt_congr (fun j hj => hp j (by omega))]
      omega
    · have ih := cnt_up (show t < n by omega) hp
      rw [hp n (fun q => e q.symm)]
      omega
/-- what sitting down leaves as it was -/
def sFr (σ τ : gS) (p : Nat) : Prop := ∀ q i, (¬ q = p + 23 ∨ 50 ≤ i) → (q < p + 2 ∨ p + 22 ≤ q ∨ ¬ i = 1) → τ q i = σ q i
theorem sFr_t {σ τ ρ : gS} {p : Nat} (h1 : sFr σ τ p) (h2 : sFr τ ρ p) : sFr σ ρ p := fun q i a b => (h2 q i a b).trans (h1 q i a b)
theorem cCnt_eq {σ : gS} {p w a f : Nat} {k : Int32} (ha : a < 5) (hf : f < 10) (h1 : σ w 1 / 8 = iN a) (h2 : σ w 3 = iN f) : cCnt σ p w k = gup σ (p + 23) (a * 10 + f) (σ (p + 23) (a * 10 + f) + k) := by
  unfold cCnt cIx
  have e : (iN a * 10 + iN f : Int32) = iN (a * 10 + f) := by
    show iN a * iN 10 + iN f = _
    rw [iN_mul, iN_add]
  rw [h1, h2, e, iN_nat (by omega), if_pos ⟨(iN_le (k := 0) (by decide) (by omega)).mpr (by omega), (iN_lt (m := 50) (by omega) (by decide)).mpr (by omega)⟩]
/-- sitting down, written out -/
theorem cSit_eq {σ : gS} {p t a0 a1 f : Nat} {x : Int32} (ht : t < 20) (ha0 : a0 < 5) (ha1 : a1 < 5) (hf : f < 10) (h0 : σ (p + 2 + t) 1 / 8 = iN a0) (h1 : x / 8 = iN a1) (h2 : σ (p + 2 + t) 3 = iN f) :
    cSit σ p t x = gup (gup (gup σ (p + 23) (a0 * 10 + f) (σ (p + 23) (a0 * 10 + f) + -1)) (p + 2 + t) 1 x) (p + 23) (a1 * 10 + f) (gup (gup σ (p + 23) (a0 * 10 + f) (σ (p + 23) (a0 * 10 + f) + -1)) (p + 2 + t) 1 x (p + 23) (a1 * 10 + f) + 1) := by
  unfold cSit
  rw [cCnt_eq ha0 hf h0 h2, cCnt_eq ha1 hf (by rw [gup_at]; exact h1) (by rw [gup_ne (by omega), gup_ne (by omega)]; exact h2)]
theorem cR_gup23 {σ : gS} {p i : Nat} {x : Int32} : cR (gup σ (p + 23) i x) p = cR σ p := by
  funext j
  unfold cR
  by_cases h : j < 9
  · rw [if_pos h, if_pos h, gup_ne (by omega)]
  · rw [if_neg h, if_neg h]
    by_cases h2 : j < 209
    · rw [if_pos h2, if_pos h2, gup_ne (by omega), gup_ne (by omega)]
    · rw [if_neg h2, if_neg h2]
theorem cR_gupf {σ : gS} {p t f : Nat} {x : Int32} (ht : t < 20) (hf : f < 9) : cR (gup σ (p + 2 + t) (f + 1) x) p = rup (cR σ p) (9 + 10 * t + f) x := by
  funext j
  unfold rup
  by_cases hj : j = 9 + 10 * t + f
  · rw [if_pos hj, hj]
    have := cR_f (σ := gup σ (p + 2 + t) (f + 1) x) (p := p) ht hf
    unfold fld at this
    rw [this, gup_at]
  · rw [if_neg hj]
    unfold cR
    by_cases h : j < 9
    · rw [if_pos h, if_pos h, gup_ne (by omega)]
    · rw [if_neg h, if_neg h]
      by_cases h2 : j < 209
      · rw [if_pos h2, if_pos h2]
        by_cases h3 : (j - 9) % 10 < 9
        · rw [if_pos h3, if_pos h3, gup_ne (by omega)]
        · rw [if_neg h3, if_neg h3, gup_ne (by omega)]
      · rw [if_neg h2, if_neg h2]
theorem cR_gup0 {σ : gS} {p k : Nat} {x : Int32} (hk : k < 9) : cR (gup σ p (k + 4) x) p = rup (cR σ p) k x := by
  funext j
  unfold rup
  by_cases hj : j = k
  · rw [if_pos hj, hj, cR_h hk, gup_at]
  · rw [if_neg hj]
    unfold cR
    by_cases h : j < 9
    · rw [if_pos h, if_pos h, gup_ne (by omega)]
    · rw [if_neg h, if_neg h]
      by_cases h2 : j < 209
      · rw [if_pos h2, if_pos h2, gup_ne (by omega), gup_ne (by omega)]
      · rw [if_neg h2, if_neg h2]
theorem iN_eq {a b : Nat} (ha : a < 2147483648) (hb : b < 2147483648) (h : ¬ a = b) : ¬ iN a = iN b := fun e => h ((iN_inj ha hb).mp e)
theorem cSit_ok {σ : gS} {p t : Nat} {x : Int32} (h : TC σ p) (ht : t < nM (cR σ p)) (hx : 0 ≤ x ∧ x < 40) : cR (cSit σ p t x) p = rup (cR σ p) (9 + 10 * t + 0) x ∧ TC (cSit σ p t x) p ∧ sFr σ (cSit σ p t x) p := by
  obtain ⟨h3, hb, hm⟩ := h
  have hn := (nM_of h3).2
  obtain ⟨-, hs, hf⟩ := hb t ht
  have e0 := cR_f (σ := σ) (p := p) (t := t) (f := 0) (by omega) (by decide)
  have e2 := cR_f (σ := σ) (p := p) (t := t) (f := 2) (by omega) (by decide)
  obtain ⟨a0, ha0, ea0⟩ := i8 hs
  obtain ⟨a1, ha1, ea1⟩ := i8 hx
  obtain ⟨f, hf2, ef⟩ := i10 hf
  have ec := cSit_eq (σ := σ) (p := p) (t := t) (x := x) (by omega) ha0 ha1 hf2 (by rw [← e0]; exact ea0) ea1 (by rw [← e2]; exact ef)
  have eR : cR (cSit σ p t x) p = rup (cR σ p) (9 + 10 * t + 0) x := by
    rw [ec, cR_gup23, cR_gupf (by omega) (by decide), cR_gup23]
  have fR : ∀ s g, g < 10 → fld (rup (cR σ p) (9 + 10 * t + 0) x) s g = if s = t ∧ g = 0 then x else fld (cR σ p) s g := by
    intro s g hg
    unfold fld rup
    by_cases q : s = t ∧ g = 0
    · rw [if_pos q, if_pos (by omega)]
    · rw [if_neg q, if_neg (by omega)]
  have e3 : cR (cSit σ p t x) p 3 = cR σ p 3 := by rw [eR, rup_ne (by omega)]
  have en : nM (cR (cSit σ p t x) p) = nM (cR σ p) := by unfold nM; rw [e3]
  refine ⟨eR, ⟨by rw [e3]; exact h3, ?_, ?_⟩, ?_⟩
  · intro s hs2
    rw [en] at hs2
    rw [eR, fR _ _ (by decide), fR _ _ (by decide), fR _ _ (by decide), if_neg (show ¬ (s = t ∧ 1 = 0) by omega), if_neg (show ¬ (s = t ∧ 2 = 0) by omega)]
    obtain ⟨b1, b2, b3⟩ := hb s hs2
    refine ⟨b1, ?_, b3⟩
    split
    · exact hx
    · exact b2
  · intro a ha g hg
    unfold mem
    rw [en, eR]
    have hP : ∀ j, memP (rup (cR σ p) (9 + 10 * t + 0) x) (iN a) (iN g) j = if j = t then decide (a1 = a ∧ f = g) else memP (cR σ p) (iN a) (iN g) j := by
      intro j
      unfold memP
      rw [fR _ _ (by decide), fR _ _ (by decide), if_neg (show ¬ (j = t ∧ 2 = 0) by omega)]
      by_cases q : j = t
      · rw [if_pos ⟨q, rfl⟩, if_pos q, q, ef, ea1]
        congr 1
        apply propext
        rw [iN_inj (by omega) (by omega), iN_inj (by omega) (by omega)]
      · rw [if_neg (fun e => q e.1), if_neg q]
    have hu := cnt_up (P := memP (cR σ p) (iN a) (iN g)) (P' := memP (rup (cR σ p) (9 + 10 * t + 0) x) (iN a) (iN g)) ht (fun j hj => by rw [hP, if_neg hj])
    have hPt : memP (cR σ p) (iN a) (iN g) t = decide (a0 = a ∧ f = g) := by
      unfold memP
      rw [ea0, ef]
      congr 1
      apply propext
      rw [iN_inj (by omega) (by omega), iN_inj (by omega) (by omega)]
    rw [hPt, hP, if_pos rfl] at hu
    have h1 := hm a ha g hg
    unfold mem at h1
    have hle := cnt_le (memP (cR σ p) (iN a) (iN g)) (nM (cR σ p))
    have hsub : ∀ m : Nat, 1 ≤ m → m < 100 → iN m + -1 = iN (m - 1) := fun m hm1 hm2 => by
      rw [← Int32.sub_eq_add_neg]
      exact iN_sub (d := 1) (by omega) hm1
    rw [ec]
    by_cases q0 : a0 = a ∧ f = g <;> by_cases q1 : a1 = a ∧ f = g
    · rw [decide_eq_true q0, decide_eq_true q1] at hu
      obtain ⟨rfl, rfl⟩ := q0
      obtain ⟨rfl, -⟩ := q1
      rw [gup_at, gup_ne (by omega), gup_at, h1]
      rw [if_pos rfl] at hu
      have : cnt (memP (rup (cR σ p) (9 + 10 * t + 0) x) (iN a1) (iN f)) (nM (cR σ p)) = cnt (memP (cR σ p) (iN a1) (iN f)) (nM (cR σ p)) := by omega
      rw [this]
      grind
    · rw [decide_eq_true q0, decide_eq_false q1] at hu
      rw [if_pos rfl, if_neg (by decide)] at hu
      obtain ⟨rfl, rfl⟩ := q0
      have ne : ¬ a0 * 10 + f = a1 * 10 + f := fun e => q1 ⟨by omega, rfl⟩
      rw [gup_ne (fun e => ne e.2), gup_ne (by omega), gup_at, h1, hsub _ (by omega) (by omega)]
      congr 1
      omega
    · rw [decide_eq_false q0, decide_eq_true q1] at hu
      rw [if_pos rfl, if_neg (by decide)] at hu
      obtain ⟨rfl, rfl⟩ := q1
      have ne : ¬ a1 * 10 + f = a0 * 10 + f := fun e => q0 ⟨by omega, rfl⟩
      rw [gup_at, gup_ne (by omega), gup_ne (fun e => ne e.2), h1, iN_one]
      congr 1
      omega
    · rw [decide_eq_false q0, decide_eq_false q1] at hu
      rw [if_neg (by decide)] at hu
      have n0 : ¬ a * 10 + g = a0 * 10 + f := fun e => q0 ⟨by omega, by omega⟩
      have n1 : ¬ a * 10 + g = a1 * 10 + f := fun e => q1 ⟨by omega, by omega⟩
      rw [gup_ne (fun e => n1 e.2), gup_ne (by omega), gup_ne (fun e => n0 e.2), h1]
      congr 1
      omega
  · intro q i hq hq2
    have ne : ∀ m, m < 50 → ¬ (q = p + 23 ∧ i = m) := fun m hm e => hq.elim (fun h => h e.1) (fun h => by omega)
    rw [ec, gup_ne (ne _ (by omega)), gup_ne (fun e => by omega), gup_ne (ne _ (by omega))]
/-- two heaps with the same rows, sound, that differ in seats and members alone, are the same -/
theorem sFr_eq {σ τ : gS} {p : Nat} (h1 : TC σ p) (h2 : TC τ p) (hR : cR τ p = cR σ p) (hf : sFr σ τ p) : τ = σ := by
  funext q i
  by_cases hq : q = p + 23 ∧ i < 50
  · obtain ⟨rfl, hi⟩ := hq
    have e1 := h1.2.2 (i / 10) (by omega) (i % 10) (by omega)
    have e2 := h2.2.2 (i / 10) (by omega) (i % 10) (by omega)
    rw [show i / 10 * 10 + i % 10 = i by omega] at e1 e2
    rw [e1, e2, hR]
  · by_cases hq2 : p + 2 ≤ q ∧ q < p + 22 ∧ i = 1
    · obtain ⟨ha, hb, rfl⟩ := hq2
      have e1 := cR_f (σ := σ) (p := p) (t := q - (p + 2)) (f := 0) (by omega) (by decide)
      have e2 := cR_f (σ := τ) (p := p) (t := q - (p + 2)) (f := 0) (by omega) (by decide)
      rw [show p + 2 + (q - (p + 2)) = q by omega] at e1 e2
      rw [← e1, ← e2, hR]
    · exact hf q i (by omega) (by omega)
-- text 26
/-! THE CLASS: swaps, moves, rings asked for -/
def cPas (σ : gS) (p a b c : Nat) : gS := cSit (cSit (cSit σ p a (σ (p + 2 + b) 1)) p b (cSit σ p a (σ (p + 2 + b) 1) (p + 2 + c) 1)) p c (σ (p + 2 + a) 1)
theorem cR_s {σ : gS} {p t : Nat} (ht : t < 20) : σ (p + 2 + t) 1 = cR σ p (9 + 10 * t + 0) := (cR_f (f := 0) ht (by decide)).symm
theorem nM_rup {R : gW} {t : Nat} {x : Int32} : nM (rup R (9 + 10 * t + 0) x) = nM R := by unfold nM; rw [rup_ne (by omega)]
theorem cExS_ok {σ : gS} {p a b : Nat} (h : TC σ p) (ha : a < nM (cR σ p)) (hb : b < nM (cR σ p)) : cR (cExS σ p a b) p = rsw (cR σ p) a b ∧ TC (cExS σ p a b) p ∧ sFr σ (cExS σ p a b) p := by
  have hn := (nM_of h.1).2
  have sa := (h.2.1 a ha).2.1
  have sb := (h.2.1 b hb).2.1
  unfold fld at sa sb
  have ea := cR_s (σ := σ) (p := p) (t := a) (by omega)
  have eb := cR_s (σ := σ) (p := p) (t := b) (by omega)
  obtain ⟨r1, t1, f1⟩ := cSit_ok h ha sb
  obtain ⟨r2, t2, f2⟩ := cSit_ok (x := cR σ p (9 + 10 * a + 0)) t1 (show b < nM _ by rw [r1, nM_rup]; exact hb) sa
  unfold cExS
  rw [ea, eb]
  refine ⟨?_, t2, sFr_t f1 f2⟩
  rw [r2, r1]
  rfl
theorem cPas_ok {σ : gS} {p a b c : Nat} (h : TC σ p) (ha : a < nM (cR σ p)) (hb : b < nM (cR σ p)) (hc : c < nM (cR σ p)) (hd : a ≠ b ∧ b ≠ c ∧ a ≠ c) : cR (cPas σ p a b c) p = rtu (cR σ p) a b c ∧ TC (cPas σ p a b c) p ∧ sFr σ (cPas σ p a b c) p := by
  have hn := (nM_of h.1).2
  have sa := (h.2.1 a ha).2.1
  have sb := (h.2.1 b hb).2.1
  have sc := (h.2.1 c hc).2.1
  unfold fld at sa sb sc
  have ea := cR_s (σ := σ) (p := p) (t := a) (by omega)
  have eb := cR_s (σ := σ) (p := p) (t := b) (by omega)
  obtain ⟨r1, t1, f1⟩ := cSit_ok h ha sb
  have ec := cR_s (σ := cSit σ p a (cR σ p (9 + 10 * b + 0))) (p := p) (t := c) (by omega)
  have ecv : cR (cSit σ p a (cR σ p (9 + 10 * b + 0))) p (9 + 10 * c + 0) = cR σ p (9 + 10 * c + 0) := by rw [r1, rup_ne (by omega)]
  obtain ⟨r2, t2, f2⟩ := cSit_ok (t := b) (x := cR (cSit σ p a (cR σ p (9 + 10 * b + 0))) p (9 + 10 * c + 0)) t1 (show b < nM _ by rw [r1, nM_rup]; exact hb) (by rw [ecv]; exact sc)
  obtain ⟨r3, t3, f3⟩ := cSit_ok (t := c) (x := cR σ p (9 + 10 * a + 0)) t2 (show c < nM _ by rw [r2, nM_rup, r1, nM_rup]; exact hc) sa
  unfold cPas
  rw [ea, eb, ec]
  refine ⟨?_, t3, sFr_t f1 (sFr_t f2 f3)⟩
  rw [r3, r2, r1]
  rfl
theorem nM_rsw {R : gW} {a b : Nat} : nM (rsw R a b) = nM R := by unfold nM; rw [rsw_3]
theorem nM_rtu {R : gW} {a b c : Nat} (hd : a ≠ b ∧ b ≠ c ∧ a ≠ c) : nM (rtu R a b c) = nM R := by unfold nM; rw [rtu_3 hd]
/-- back again -/
theorem cExS_bk {σ : gS} {p a b : Nat} (h : TC σ p) (ha : a < nM (cR σ p)) (hb : b < nM (cR σ p)) : cExS (cExS σ p a b) p a b = σ := by
  obtain ⟨r1, t1, f1⟩ := cExS_ok h ha hb
  obtain ⟨r2, t2, f2⟩ := cExS_ok (a := a) (b := b) t1 (by rw [r1, nM_rsw]; exact ha) (by rw [r1, nM_rsw]; exact hb)
  exact sFr_eq h t2 (by rw [r2, r1, rsw_rsw]) (sFr_t f1 f2)
theorem cPas_bk {σ : gS} {p a b c : Nat} (h : TC σ p) (ha : a < nM (cR σ p)) (hb : b < nM (cR σ p)) (hc : c < nM (cR σ p)) (hd : a ≠ b ∧ b ≠ c ∧ a ≠ c) : cPas (cPas σ p a b c) p c b a = σ := by
  obtain ⟨r1, t1, f1⟩ := cPas_ok h ha hb hc hd
  have hd2 : c ≠ b ∧ b ≠ a ∧ c ≠ a := ⟨fun e => hd.2.1 e.symm, fun e => hd.1 e.symm, fun e => hd.2.2 e.symm⟩
  obtain ⟨r2, t2, f2⟩ := cPas_ok (a := c) (b := b) (c := a) t1 (by rw [r1, nM_rtu hd]; exact hc) (by rw [r1, nM_rtu hd]; exact hb) (by rw [r1, nM_rtu hd]; exact ha) hd2
  exact sFr_eq h t2 (by rw [r2, r1, rtu_rtu hd]) (sFr_t f1 f2)
/-- a traveller of the train -/
abbrev isN (σ : gS) (p : Nat) (t : Int32) : Prop := (0 ≤ t ∧ t < 20) ∧ t.toNatClampNeg < nM (cR σ p)
theorem fWho_c (R : gW) (x : Int32) (h : 0 ≤ R 3 ∧ R 3 ≤ 20) : fWho R x = -2 ∨ 0 ≤ fWho R x := by
  have hn := (nM_of h).2
  unfold fWho
  generalize nM R = n at hn
  induction n with
  | zero => exact Or.inl rfl
  | succ n ih =>
    unfold fnd
    by_cases e : fnd (fun t => decide (fld R t 0 = x)) n = -2
    · rw [if_pos e]
      split
      · exact Or.inr ((iN_le (k := 0) (by decide) (by omega)).mpr (by omega))
      · exact Or.inl rfl
    · rw [if_neg e]
      exact ih (by omega)
set_option maxRecDepth 20000 in
theorem w84_6_V {cSitV : gS → Nat → Nat → Int32 → gS} (hp : gPok (gpcjV cSitV)) {σ : gS} {K : gK} {a b : Int32} (h : (0 ≤ a ∧ a < 20) ∧ gTv (6 + 2 + a.toNatClampNeg) ∧ (0 ≤ b ∧ b < 20) ∧ gTv (6 + 2 + b.toNatClampNeg) ∧ (0 ≤ a ∧ a < 20) ∧ (0 ≤ b ∧ b < 20) ∧ K none (cSitV (cSitV σ 6 a.toNatClampNeg (σ (6 + 2 + b.toNatClampNeg) 1)) 6 b.toNatClampNeg (σ (6 + 2 + a.toNatClampNeg) 1))) : gE 84 0 [some (.ref 6), some (.int a), some (.int b), none] [] σ K :=
  gw_run (cy := 84) (cuts := []) (inl := []) (pf := gpcjV cSitV) hp 400 (by decide) h
theorem w84_6 {σ : gS} {K : gK} {a b : Int32} (h : (0 ≤ a ∧ a < 20) ∧ gTv (6 + 2 + a.toNatClampNeg) ∧ (0 ≤ b ∧ b < 20) ∧ gTv (6 + 2 + b.toNatClampNeg) ∧ (0 ≤ a ∧ a < 20) ∧ (0 ≤ b ∧ b < 20) ∧ K none (cSit (cSit σ 6 a.toNatClampNeg (σ (6 + 2 + b.toNatClampNeg) 1)) 6 b.toNatClampNeg (σ (6 + 2 + a.toNatClampNeg) 1))) : gE 84 0 [some (.ref 6), some (.int a), some (.int b), none] [] σ K :=
  w84_6_V (cSitV := cSit) gpcj_ok h
theorem s84_6 {σ : gS} {K : gK} {a b : Int32} (hc : (0 ≤ a ∧ a < 20) ∧ (0 ≤ b ∧ b < 20)) (hK : K none (cExS σ 6 a.toNatClampNeg b.toNatClampNeg)) : gE 84 0 [some (.ref 6), some (.int a), some (.int b), none] [] σ K := by
  obtain ⟨ha, hb⟩ := hc
  exact w84_6 ⟨ha, tv_6 _ (n20 ha), hb, tv_6 _ (n20 hb), ha, hb, hK⟩
set_option maxRecDepth 20000 in
theorem w84_32_V {cSitV : gS → Nat → Nat → Int32 → gS} (hp : gPok (gpcjV cSitV)) {σ : gS} {K : gK} {a b : Int32} (h : (0 ≤ a ∧ a < 20) ∧ gTv (32 + 2 + a.toNatClampNeg) ∧ (0 ≤ b ∧ b < 20) ∧ gTv (32 + 2 + b.toNatClampNeg) ∧ (0 ≤ a ∧ a < 20) ∧ (0 ≤ b ∧ b < 20) ∧ K none (cSitV (cSitV σ 32 a.toNatClampNeg (σ (32 + 2 + b.toNatClampNeg) 1)) 32 b.toNatClampNeg (σ (32 + 2 + a.toNatClampNeg) 1))) : gE 84 0 [some (.ref 32), some (.int a), some (.int b), none] [] σ K :=
  gw_run (cy := 84) (cuts := []) (inl := []) (pf := gpcjV cSitV) hp 400 (by decide) h
theorem w84_32 {σ : gS} {K : gK} {a b : Int32} (h : (0 ≤ a ∧ a < 20) ∧ gTv (32 + 2 + a.toNatClampNeg) ∧ (0 ≤ b ∧ b < 20) ∧ gTv (32 + 2 + b.toNatClampNeg) ∧ (0 ≤ a ∧ a < 20) ∧ (0 ≤ b ∧ b < 20) ∧ K none (cSit (cSit σ 32 a.toNatClampNeg (σ (32 + 2 + b.toNatClampNeg) 1)) 32 b.toNatClampNeg (σ (32 + 2 + a.toNatClampNeg) 1))) : gE 84 0 [some (.ref 32), some (.int a), some (.int b), none] [] σ K :=
  w84_32_V (cSitV := cSit) gpcj_ok h
theorem s84_32 {σ : gS} {K : gK} {a b : Int32} (hc : (0 ≤ a ∧ a < 20) ∧ (0 ≤ b ∧ b < 20)) (hK : K none (cExS σ 32 a.toNatClampNeg b.toNatClampNeg)) : gE 84 0 [some (.ref 32), some (.int a), some (.int b), none] [] σ K := by
  obtain ⟨ha, hb⟩ := hc
  exact w84_32 ⟨ha, tv_32 _ (n20 ha), hb, tv_32 _ (n20 hb), ha, hb, hK⟩
noncomputable def f84 : gD := fun Lv σ => match Lv with
  | [some (.ref p), some (.int a), some (.int b), none] => cond (Nat.beq p 6 || Nat.beq p 32) (some (some ((0 ≤ a ∧ a < 20) ∧ (0 ≤ b ∧ b < 20)), none, cExS σ p a.toNatClampNeg b.toNatClampNeg)) none
  | _ => none
theorem ok84 : gFok 84 f84 := by
  intro Lv σ q h hc K hK
  unfold f84 at h
  split at h
  · rename_i p a b
    obtain ⟨hb, h⟩ := c_no h
    have hb0 := hb
    rcases s_or hb0 with hb0 | hb0
    · have e := b_eq hb0
      subst e
      cases h
      exact s84_6 (hc _ rfl) hK
    · have e := b_eq hb0
      subst e
      cases h
      exact s84_32 (hc _ rfl) hK
  · cases h
set_option maxRecDepth 20000 in
theorem w85_6_V {cSitV : gS → Nat → Nat → Int32 → gS} (hp : gPok (gpcjV cSitV)) {σ : gS} {K : gK} {a b c : Int32} (h : (0 ≤ a ∧ a < 20) ∧ gTv (6 + 2 + a.toNatClampNeg) ∧ (0 ≤ b ∧ b < 20) ∧ gTv (6 + 2 + b.toNatClampNeg) ∧ (0 ≤ a ∧ a < 20) ∧ (0 ≤ c ∧ c < 20) ∧ gTv (6 + 2 + c.toNatClampNeg) ∧ (0 ≤ b ∧ b < 20) ∧ (0 ≤ c ∧ c < 20) ∧ K none (cSitV (cSitV (cSitV σ 6 a.toNatClampNeg (σ (6 + 2 + b.toNatClampNeg) 1)) 6 b.toNatClampNeg ((cSitV σ 6 a.toNatClampNeg (σ (6 + 2 + b.toNatClampNeg) 1)) (6 + 2 + c.toNatClampNeg) 1)) 6 c.toNatClampNeg (σ (6 + 2 + a.toNatClampNeg) 1))) : gE 85 0 [some (.ref 6), some (.int a), some (.int b), some (.int c), none] [] σ K :=
  gw_run (cy := 85) (cuts := []) (inl := []) (pf := gpcjV cSitV) hp 400 (by decide) h
theorem w85_6 {σ : gS} {K : gK} {a b c : Int32} (h : (0 ≤ a ∧ a < 20) ∧ gTv (6 + 2 + a.toNatClampNeg) ∧ (0 ≤ b ∧ b < 20) ∧ gTv (6 + 2 + b.toNatClampNeg) ∧ (0 ≤ a ∧ a < 20) ∧ (0 ≤ c ∧ c < 20) ∧ gTv (6 + 2 + c.toNatClampNeg) ∧ (0 ≤ b ∧ b < 20) ∧ (0 ≤ c ∧ c < 20) ∧ K none (cSit (cSit (cSit σ 6 a.toNatClampNeg (σ (6 + 2 + b.toNatClampNeg) 1)) 6 b.toNatClampNeg ((cSit σ 6 a.toNatClampNeg (σ (6 + 2 + b.toNatClampNeg) 1)) (6 + 2 + c.toNatClampNeg) 1)) 6 c.toNatClampNeg (σ (6 + 2 + a.toNatClampNeg) 1))) : gE 85 0 [some (.ref 6), some (.int a), some (.int b), some (.int c), none] [] σ K :=
  w85_6_V (cSitV := cSit) gpcj_ok h
theorem s85_6 {σ : gS} {K : gK} {a b c : Int32} (hc : (0 ≤ a ∧ a < 20) ∧ (0 ≤ b ∧ b < 20) ∧ (0 ≤ c ∧ c < 20)) (hK : K none (cPas σ 6 a.toNatClampNeg b.toNatClampNeg c.toNatClampNeg)) : gE 85 0 [some (.ref 6), some (.int a), some (.int b), some (.int c), none] [] σ K := by
  obtain ⟨ha, hb, hcc⟩ := hc
  exact w85_6 ⟨ha, tv_6 _ (n20 ha), hb, tv_6 _ (n20 hb), ha, hcc, tv_6 _ (n20 hcc), hb, hcc, hK⟩
set_option maxRecDepth 20000 in
theorem w85_32_V {cSitV : gS → Nat → Nat → Int32 → gS} (hp : gPok (gpcjV cSitV)) {σ : gS} {K : gK} {a b c : Int32} (h : (0 ≤ a ∧ a < 20) ∧ gTv (32 + 2 + a.toNatClampNeg) ∧ (0 ≤ b ∧ b < 20) ∧ gTv (32 + 2 + b.toNatClampNeg) ∧ (0 ≤ a ∧ a < 20) ∧ (0 ≤ c ∧ c < 20) ∧ gTv (32 + 2 + c.toNatClampNeg) ∧ (0 ≤ b ∧ b < 20) ∧ (0 ≤ c ∧ c < 20) ∧ K none (cSitV (cSitV (cSitV σ 32 a.toNatClampNeg (σ (32 + 2 + b.toNatClampNeg) 1)) 32 b.toNatClampNeg ((cSitV σ 32 a.toNatClampNeg (σ (32 + 2 + b.toNatClampNeg) 1)) (32 + 2 + c.toNatClampNeg) 1)) 32 c.toNatClampNeg (σ (32 + 2 + a.toNatClampNeg) 1))) : gE 85 0 [some (.ref 32), some (.int a), some (.int b), some (.int c), none] [] σ K :=
  gw_run (cy := 85) (cuts := []) (inl := []) (pf := gpcjV cSitV) hp 400 (by decide) h
theorem w85_32 {σ : gS} {K : gK} {a b c : Int32} (h : (0 ≤ a ∧ a < 20) ∧ gTv (32 + 2 + a.toNatClampNeg) ∧ (0 ≤ b ∧ b < 20) ∧ gTv (32 + 2 + b.toNatClampNeg) ∧ (0 ≤ a ∧ a < 20) ∧ (0 ≤ c ∧ c < 20) ∧ gTv (32 + 2 + c.toNatClampNeg) ∧ (0 ≤ b ∧ b < 20) ∧ (0 ≤ c ∧ c < 20) ∧ K none (cSit (cSit (cSit σ 32 a.toNatClampNeg (σ (32 + 2 + b.toNatClampNeg) 1)) 32 b.toNatClampNeg ((cSit σ 32 a.toNatClampNeg (σ (32 + 2 + b.toNatClampNeg) 1)) (32 + 2 + c.toNatClampNeg) 1)) 32 c.toNatClampNeg (σ (32 + 2 + a.toNatClampNeg) 1))) : gE 85 0 [some (.ref 32), some (.int a), some (.int b), some (.int c), none] [] σ K :=
  w85_32_V (cSitV := cSit) gpcj_ok h
theorem s85_32 {σ : gS} {K : gK} {a b c : Int32} (hc : (0 ≤ a ∧ a < 20) ∧ (0 ≤ b ∧ b < 20) ∧ (0 ≤ c ∧ c < 20)) (hK : K none (cPas σ 32 a.toNatClampNeg b.toNatClampNeg c.toNatClampNeg)) : gE 85 0 [some (.ref 32), some (.int a), some (.int b), some (.int c), none] [] σ K := by
  obtain ⟨ha, hb, hcc⟩ := hc
  exact w85_32 ⟨ha, tv_32 _ (n20 ha), hb, tv_32 _ (n20 hb), ha, hcc, tv_32 _ (n20 hcc), hb, hcc, hK⟩
noncomputable def f85 : gD := fun Lv σ => match Lv with
  | [some (.ref p), some (.int a), some (.int b), some (.int c), none] => cond (Nat.beq p 6 || Nat.beq p 32) (some (some ((0 ≤ a ∧ a < 20) ∧ (0 ≤ b ∧ b < 20) ∧ (0 ≤ c ∧ c < 20)), none, cPas σ p a.toNatClampNeg b.toNatClampNeg c.toNatClampNeg)) none
  | _ => none
theorem ok85 : gFok 85 f85 := by
  intro Lv σ q h hc K hK
  unfold f85 at h
  split at h
  · rename_i p a b c
    obtain ⟨hb, h⟩ := c_no h
    have hb0 := hb
    rcases s_or hb0 with hb0 | hb0
    · have e := b_eq hb0
      subst e
      cases h
      exact s85_6 (hc _ rfl) hK
    · have e := b_eq hb0
      subst e
      cases h
      exact s85_32 (hc _ rfl) hK
  · cases h
noncomputable def gpck_l : List (Nat × gD) := (84, f84) :: (85, f85) :: gpcj_l
noncomputable def gpck : gP := gpl0 gpck_l
theorem gpck_ok : gPok gpck := gpl0_cons ok84 (gpl0_cons ok85 (gpcj_ok))
noncomputable def f84V (cExSV : gS → Nat → Nat → Nat → gS) : gD := fun Lv σ => match Lv with
  | [some (.ref p), some (.int a), some (.int b), none] => cond (Nat.beq p 6 || Nat.beq p 32) (some (some ((0 ≤ a ∧ a < 20) ∧ (0 ≤ b ∧ b < 20)), none, cExSV σ p a.toNatClampNeg b.toNatClampNeg)) none
  | _ => none
noncomputable def f85V (cPasV : gS → Nat → Nat → Nat → Nat → gS) : gD := fun Lv σ => match Lv with
  | [some (.ref p), some (.int a), some (.int b), some (.int c), none] => cond (Nat.beq p 6 || Nat.beq p 32) (some (some ((0 ≤ a ∧ a < 20) ∧ (0 ≤ b ∧ b < 20) ∧ (0 ≤ c ∧ c < 20)), none, cPasV σ p a.toNatClampNeg b.toNatClampNeg c.toNatClampNeg)) none
  | _ => none
noncomputable def gpckV (cExSV : gS → Nat → Nat → Nat → gS) (cPasV : gS → Nat → Nat → Nat → Nat → gS) : gP := gpl0 ((84, f84V cExSV) :: (85, f85V cPasV) :: gpcj_l)
set_option maxRecDepth 20000 in
theorem w86_6_V {cExSV : gS → Nat → Nat → Nat → gS} {cPasV : gS → Nat → Nat → Nat → Nat → gS} (hp : gPok (gpckV cExSV cPasV)) {σ : gS} {K : gK} {a b : Int32} (h : (((0 ≤ a ∧ a < 20) ∧ a.toNatClampNeg < nM (cR σ 6)) ∧ TC σ 6) ∧ ((0 ≤ a ∧ a < 20) ∧ (0 ≤ b ∧ b < 20)) ∧ (((0 ≤ a ∧ a < 20) ∧ a.toNatClampNeg < nM (cR (cExSV σ 6 a.toNatClampNeg b.toNatClampNeg) 6)) ∧ TC (cExSV σ 6 a.toNatClampNeg b.toNatClampNeg) 6) ∧ ((0 ≤ a ∧ a < 20) ∧ (0 ≤ b ∧ b < 20)) ∧ K (some (.int ((fJo (cR (cExSV σ 6 a.toNatClampNeg b.toNatClampNeg) 6) a.toNatClampNeg) - (fJo (cR σ 6) a.toNatClampNeg)))) (cExSV (cExSV σ 6 a.toNatClampNeg b.toNatClampNeg) 6 a.toNatClampNeg b.toNatClampNeg)) : gE 86 0 [some (.ref 6), some (.int a), some (.int b), none, none] [] σ K :=
  gw_run (cy := 86) (cuts := []) (inl := []) (pf := gpckV cExSV cPasV) hp 400 (by decide) h
theorem w86_6 {σ : gS} {K : gK} {a b : Int32} (h : (((0 ≤ a ∧ a < 20) ∧ a.toNatClampNeg < nM (cR σ 6)) ∧ TC σ 6) ∧ ((0 ≤ a ∧ a < 20) ∧ (0 ≤ b ∧ b < 20)) ∧ (((0 ≤ a ∧ a < 20) ∧ a.toNatClampNeg < nM (cR (cExS σ 6 a.toNatClampNeg b.toNatClampNeg) 6)) ∧ TC (cExS σ 6 a.toNatClampNeg b.toNatClampNeg) 6) ∧ ((0 ≤ a ∧ a < 20) ∧ (0 ≤ b ∧ b < 20)) ∧ K (some (.int ((fJo (cR (cExS σ 6 a.toNatClampNeg b.toNatClampNeg) 6) a.toNatClampNeg) - (fJo (cR σ 6) a.toNatClampNeg)))) (cExS (cExS σ 6 a.toNatClampNeg b.toNatClampNeg) 6 a.toNatClampNeg b.toNatClampNeg)) : gE 86 0 [some (.ref 6), some (.int a), some (.int b), none, none] [] σ K :=
  w86_6_V (cExSV := cExS) (cPasV := cPas) gpck_ok h
theorem s86_6 {σ : gS} {K : gK} {a b : Int32} (hc : isN σ 6 a ∧ isN σ 6 b ∧ TC σ 6) (hK : K (some (.int (fRise (cR σ 6) a.toNatClampNeg b.toNatClampNeg a.toNatClampNeg))) σ) : gE 86 0 [some (.ref 6), some (.int a), some (.int b), none, none] [] σ K := by
  obtain ⟨ha, hb, hT⟩ := hc
  obtain ⟨r1, t1, f1⟩ := cExS_ok hT ha.2 hb.2
  refine w86_6 ⟨⟨ha, hT⟩, ⟨ha.1, hb.1⟩, ⟨⟨ha.1, by rw [r1, nM_rsw]; exact ha.2⟩, t1⟩, ⟨ha.1, hb.1⟩, ?_⟩
  rw [cExS_bk hT ha.2 hb.2, r1]
  exact hK
set_option maxRecDepth 20000 in
theorem w86_32_V {cExSV : gS → Nat → Nat → Nat → gS} {cPasV : gS → Nat → Nat → Nat → Nat → gS} (hp : gPok (gpckV cExSV cPasV)) {σ : gS} {K : gK} {a b : Int32} (h : (((0 ≤ a ∧ a < 20) ∧ a.toNatClampNeg < nM (cR σ 32)) ∧ TC σ 32) ∧ ((0 ≤ a ∧ a < 20) ∧ (0 ≤ b ∧ b < 20)) ∧ (((0 ≤ a ∧ a < 20) ∧ a.toNatClampNeg < nM (cR (cExSV σ 32 a.toNatClampNeg b.toNatClampNeg) 32)) ∧ TC (cExSV σ 32 a.toNatClampNeg b.toNatClampNeg) 32) ∧ ((0 ≤ a ∧ a < 20) ∧ (0 ≤ b ∧ b < 20)) ∧ K (some (.int ((fJo (cR (cExSV σ 32 a.toNatClampNeg b.toNatClampNeg) 32) a.toNatClampNeg) - (fJo (cR σ 32) a.toNatClampNeg)))) (cExSV (cExSV σ 32 a.toNatClampNeg b.toNatClampNeg) 32 a.toNatClampNeg b.toNatClampNeg)) : gE 86 0 [some (.ref 32), some (.int a), some (.int b), none, none] [] σ K :=
  gw_run (cy := 86) (cuts := []) (inl := []) (pf := gpckV cExSV cPasV) hp 400 (by decide) h
theorem w86_32 {σ : gS} {K : gK} {a b : Int32} (h : (((0 ≤ a ∧ a < 20) ∧ a.toNatClampNeg < nM (cR σ 32)) ∧ TC σ 32) ∧ ((0 ≤ a ∧ a < 20) ∧ (0 ≤ b ∧ b < 20)) ∧ (((0 ≤ a ∧ a < 20) ∧ a.toNatClampNeg < nM (cR (cExS σ 32 a.toNatClampNeg b.toNatClampNeg) 32)) ∧ TC (cExS σ 32 a.toNatClampNeg b.toNatClampNeg) 32) ∧ ((0 ≤ a ∧ a < 20) ∧ (0 ≤ b ∧ b < 20)) ∧ K (some (.int ((fJo (cR (cExS σ 32 a.toNatClampNeg b.toNatClampNeg) 32) a.toNatClampNeg) - (fJo (cR σ 32) a.toNatClampNeg)))) (cExS (cExS σ 32 a.toNatClampNeg b.toNatClampNeg) 32 a.toNatClampNeg b.toNatClampNeg)) : gE 86 0 [some (.ref 32), some (.int a), some (.int b), none, none] [] σ K :=
  w86_32_V (cExSV := cExS) (cPasV := cPas) gpck_ok h
theorem s86_32 {σ : gS} {K : gK} {a b : Int32} (hc : isN σ 32 a ∧ isN σ 32 b ∧ TC σ 32) (hK : K (some (.int (fRise (cR σ 32) a.toNatClampNeg b.toNatClampNeg a.toNatClampNeg))) σ) : gE 86 0 [some (.ref 32), some (.int a), some (.int b), none, none] [] σ K := by
  obtain ⟨ha, hb, hT⟩ := hc
  obtain ⟨r1, t1, f1⟩ := cExS_ok hT ha.2 hb.2
  refine w86_32 ⟨⟨ha, hT⟩, ⟨ha.1, hb.1⟩, ⟨⟨ha.1, by rw [r1, nM_rsw]; exact ha.2⟩, t1⟩, ⟨ha.1, hb.1⟩, ?_⟩
  rw [cExS_bk hT ha.2 hb.2, r1]
  exact hK
noncomputable def f86 : gD := fun Lv σ => match Lv with
  | [some (.ref p), some (.int a), some (.int b), none, none] => cond (Nat.beq p 6 || Nat.beq p 32) (some (some (isN σ p a ∧ isN σ p b ∧ TC σ p), some (.int (fRise (cR σ p) a.toNatClampNeg b.toNatClampNeg a.toNatClampNeg)), σ)) none
  | _ => none
theorem ok86 : gFok 86 f86 := by
  intro Lv σ q h hc K hK
  unfold f86 at h
  split at h
  · rename_i p a b
    obtain ⟨hb, h⟩ := c_no h
    have hb0 := hb
    rcases s_or hb0 with hb0 | hb0
    · have e := b_eq hb0
      subst e
      cases h
      exact s86_6 (hc _ rfl) hK
    · have e := b_eq hb0
      subst e
      cases h
      exact s86_32 (hc _ rfl) hK
  · cases h
set_option maxRecDepth 20000 in
theorem w87_6_V {cExSV : gS → Nat → Nat → Nat → gS} {cPasV : gS → Nat → Nat → Nat → Nat → gS} (hp : gPok (gpckV cExSV cPasV)) {σ : gS} {K : gK} {a b : Int32} (h : ((0 ≤ a ∧ a < 20) ∧ (0 ≤ b ∧ b < 20)) ∧ (TC (cExSV σ 6 a.toNatClampNeg b.toNatClampNeg) 6) ∧ ((0 ≤ a ∧ a < 20) ∧ (0 ≤ b ∧ b < 20)) ∧ K (some (.int (fJa (cR (cExSV σ 6 a.toNatClampNeg b.toNatClampNeg) 6)))) (cExSV (cExSV σ 6 a.toNatClampNeg b.toNatClampNeg) 6 a.toNatClampNeg b.toNatClampNeg)) : gE 87 0 [some (.ref 6), some (.int a), some (.int b), none] [] σ K :=
  gw_run (cy := 87) (cuts := []) (inl := []) (pf := gpckV cExSV cPasV) hp 400 (by decide) h
theorem w87_6 {σ : gS} {K : gK} {a b : Int32} (h : ((0 ≤ a ∧ a < 20) ∧ (0 ≤ b ∧ b < 20)) ∧ (TC (cExS σ 6 a.toNatClampNeg b.toNatClampNeg) 6) ∧ ((0 ≤ a ∧ a < 20) ∧ (0 ≤ b ∧ b < 20)) ∧ K (some (.int (fJa (cR (cExS σ 6 a.toNatClampNeg b.toNatClampNeg) 6)))) (cExS (cExS σ 6 a.toNatClampNeg b.toNatClampNeg) 6 a.toNatClampNeg b.toNatClampNeg)) : gE 87 0 [some (.ref 6), some (.int a), some (.int b), none] [] σ K :=
  w87_6_V (cExSV := cExS) (cPasV := cPas) gpck_ok h
theorem s87_6 {σ : gS} {K : gK} {a b : Int32} (hc : isN σ 6 a ∧ isN σ 6 b ∧ TC σ 6) (hK : K (some (.int (fJa (rsw (cR σ 6) a.toNatClampNeg b.toNatClampNeg)))) σ) : gE 87 0 [some (.ref 6), some (.int a), some (.int b), none] [] σ K := by
  obtain ⟨ha, hb, hT⟩ := hc
  obtain ⟨r1, t1, f1⟩ := cExS_ok hT ha.2 hb.2
  refine w87_6 ⟨⟨ha.1, hb.1⟩, t1, ⟨ha.1, hb.1⟩, ?_⟩
  rw [cExS_bk hT ha.2 hb.2, r1]
  exact hK
set_option maxRecDepth 20000 in
theorem w87_32_V {cExSV : gS → Nat → Nat → Nat → gS} {cPasV : gS → Nat → Nat → Nat → Nat → gS} (hp : gPok (gpckV cExSV cPasV)) {σ : gS} {K : gK} {a b : Int32} (h : ((0 ≤ a ∧ a < 20) ∧ (0 ≤ b ∧ b < 20)) ∧ (TC (cExSV σ 32 a.toNatClampNeg b.toNatClampNeg) 32) ∧ ((0 ≤ a ∧ a < 20) ∧ (0 ≤ b ∧ b < 20)) ∧ K (some (.int (fJa (cR (cExSV σ 32 a.toNatClampNeg b.toNatClampNeg) 32)))) (cExSV (cExSV σ 32 a.toNatClampNeg b.toNatClampNeg) 32 a.toNatClampNeg b.toNatClampNeg)) : gE 87 0 [some (.ref 32), some (.int a), some (.int b), none] [] σ K :=
  gw_run (cy := 87) (cuts := []) (inl := []) (pf := gpckV cExSV cPasV) hp 400 (by decide) h
theorem w87_32 {σ : gS} {K : gK} {a b : Int32} (h : ((0 ≤ a ∧ a < 20) ∧ (0 ≤ b ∧ b < 20)) ∧ (TC (cExS σ 32 a.toNatClampNeg b.toNatClampNeg) 32) ∧ ((0 ≤ a ∧ a < 20) ∧ (0 ≤ b ∧ b < 20)) ∧ K (some (.int (fJa (cR (cExS σ 32 a.toNatClampNeg b.toNatClampNeg) 32)))) (cExS (cExS σ 32 a.toNatClampNeg b.toNatClampNeg) 32 a.toNatClampNeg b.toNatClampNeg)) : gE 87 0 [some (.ref 32), some (.int a), some (.int b), none] [] σ K :=
  w87_32_V (cExSV := cExS) (cPasV := cPas) gpck_ok h
theorem s87_32 {σ : gS} {K : gK} {a b : Int32} (hc : isN σ 32 a ∧ isN σ 32 b ∧ TC σ 32) (hK : K (some (.int (fJa (rsw (cR σ 32) a.toNatClampNeg b.toNatClampNeg)))) σ) : gE 87 0 [some (.ref 32), some (.int a), some (.int b), none] [] σ K := by
  obtain ⟨ha, hb, hT⟩ := hc
  obtain ⟨r1, t1, f1⟩ := cExS_ok hT ha.2 hb.2
  refine w87_32 ⟨⟨ha.1, hb.1⟩, t1, ⟨ha.1, hb.1⟩, ?_⟩
  rw [cExS_bk hT ha.2 hb.2, r1]
  exact hK
noncomputable def f87 : gD := fun Lv σ => match Lv with
  | [some (.ref p), some (.int a), some (.int b), none] => cond (Nat.beq p 6 || Nat.beq p 32) (some (some (isN σ p a ∧ isN σ p b ∧ TC σ p), some (.int (fJa (rsw (cR σ p) a.toNatClampNeg b.toNatClampNeg))), σ)) none
  | _ => none
theorem ok87 : gFok 87 f87 := by
  intro Lv σ q h hc K hK
  unfold f87 at h
  split at h
  · rename_i p a b
    obtain ⟨hb, h⟩ := c_no h
    have hb0 := hb
    rcases s_or hb0 with hb0 | hb0
    · have e := b_eq hb0
      subst e
      cases h
      exact s87_6 (hc _ rfl) hK
    · have e := b_eq hb0
      subst e
      cases h
      exact s87_32 (hc _ rfl) hK
  · cases h
set_option maxRecDepth 20000 in
theorem w88_6_V {cExSV : gS → Nat → Nat → Nat → gS} {cPasV : gS → Nat → Nat → Nat → Nat → gS} (hp : gPok (gpckV cExSV cPasV)) {σ : gS} {K : gK} {a b x : Int32} (h : (0 ≤ b ∧ b < 20) ∧ gTv (6 + 2 + b.toNatClampNeg) ∧ (0 ≤ a ∧ a < 20) ∧ (((bI (fMay (cR σ 6) a.toNatClampNeg (σ (6 + 2 + b.toNatClampNeg) 1))) = 0 → K (some (.int 1)) σ) ∧ (¬ (bI (fMay (cR σ 6) a.toNatClampNeg (σ (6 + 2 + b.toNatClampNeg) 1))) = 0 → (0 ≤ a ∧ a < 20) ∧ gTv (6 + 2 + a.toNatClampNeg) ∧ (0 ≤ b ∧ b < 20) ∧ ((¬ (bI (fMay (cR σ 6) b.toNatClampNeg (σ (6 + 2 + a.toNatClampNeg) 1))) = 0 → (0 ≤ a ∧ a < 20) ∧ gTv (6 + 2 + a.toNatClampNeg) ∧ ((¬ (σ (6 + 2 + a.toNatClampNeg) 8) < x → (((0 ≤ a ∧ a < 20) ∧ a.toNatClampNeg < nM (cR σ 6)) ∧ TC σ 6) ∧ (((0 ≤ b ∧ b < 20) ∧ b.toNatClampNeg < nM (cR σ 6)) ∧ TC σ 6) ∧ ((0 ≤ a ∧ a < 20) ∧ (0 ≤ b ∧ b < 20)) ∧ (((0 ≤ a ∧ a < 20) ∧ a.toNatClampNeg < nM (cR (cExSV σ 6 a.toNatClampNeg b.toNatClampNeg) 6)) ∧ TC (cExSV σ 6 a.toNatClampNeg b.toNatClampNeg) 6) ∧ (((0 ≤ b ∧ b < 20) ∧ b.toNatClampNeg < nM (cR (cExSV σ 6 a.toNatClampNeg b.toNatClampNeg) 6)) ∧ TC (cExSV σ 6 a.toNatClampNeg b.toNatClampNeg) 6) ∧ ((0 ≤ a ∧ a < 20) ∧ (0 ≤ b ∧ b < 20)) ∧ ((¬ ((fJo (cR (cExSV σ 6 a.toNatClampNeg b.toNatClampNeg) 6) a.toNatClampNeg) - (fJo (cR σ 6) a.toNatClampNeg)) < x → ((¬ ((fJo (cR (cExSV σ 6 a.toNatClampNeg b.toNatClampNeg) 6) b.toNatClampNeg) - (fJo (cR σ 6) b.toNatClampNeg)) < (-x) → K (some (.int 0)) (cExSV (cExSV σ 6 a.toNatClampNeg b.toNatClampNeg) 6 a.toNatClampNeg b.toNatClampNeg)) ∧ (((fJo (cR (cExSV σ 6 a.toNatClampNeg b.toNatClampNeg) 6) b.toNatClampNeg) - (fJo (cR σ 6) b.toNatClampNeg)) < (-x) → K (some (.int 4)) (cExSV (cExSV σ 6 a.toNatClampNeg b.toNatClampNeg) 6 a.toNatClampNeg b.toNatClampNeg)))) ∧ (((fJo (cR (cExSV σ 6 a.toNatClampNeg b.toNatClampNeg) 6) a.toNatClampNeg) - (fJo (cR σ 6) a.toNatClampNeg)) < x → K (some (.int 3)) (cExSV (cExSV σ 6 a.toNatClampNeg b.toNatClampNeg) 6 a.toNatClampNeg b.toNatClampNeg)))) ∧ ((σ (6 + 2 + a.toNatClampNeg) 8) < x → K (some (.int 2)) σ))) ∧ ((bI (fMay (cR σ 6) b.toNatClampNeg (σ (6 + 2 + a.toNatClampNeg) 1))) = 0 → K (some (.int 1)) σ))))) : gE 88 0 [some (.ref 6), some (.int a), some (.int b), some (.int x), none, none, none, none] [] σ K :=
  gw_run (cy := 88) (cuts := []) (inl := []) (pf := gpckV cExSV cPasV) hp 400 (by decide) h
theorem w88_6 {σ : gS} {K : gK} {a b x : Int32} (h : (0 ≤ b ∧ b < 20) ∧ gTv (6 + 2 + b.toNatClampNeg) ∧ (0 ≤ a ∧ a < 20) ∧ (((bI (fMay (cR σ 6) a.toNatClampNeg (σ (6 + 2 + b.toNatClampNeg) 1))) = 0 → K (some (.int 1)) σ) ∧ (¬ (bI (fMay (cR σ 6) a.toNatClampNeg (σ (6 + 2 + b.toNatClampNeg) 1))) = 0 → (0 ≤ a ∧ a < 20) ∧ gTv (6 + 2 + a.toNatClampNeg) ∧ (0 ≤ b ∧ b < 20) ∧ ((¬ (bI (fMay (cR σ 6) b.toNatClampNeg (σ (6 + 2 + a.toNatClampNeg) 1))) = 0 → (0 ≤ a ∧ a < 20) ∧ gTv (6 + 2 + a.toNatClampNeg) ∧ ((¬ (σ (6 + 2 + a.toNatClampNeg) 8) < x → (((0 ≤ a ∧ a < 20) ∧ a.toNatClampNeg < nM (cR σ 6)) ∧ TC σ 6) ∧ (((0 ≤ b ∧ b < 20) ∧ b.toNatClampNeg < nM (cR σ 6)) ∧ TC σ 6) ∧ ((0 ≤ a ∧ a < 20) ∧ (0 ≤ b ∧ b < 20)) ∧ (((0 ≤ a ∧ a < 20) ∧ a.toNatClampNeg < nM (cR (cExS σ 6 a.toNatClampNeg b.toNatClampNeg) 6)) ∧ TC (cExS σ 6 a.toNatClampNeg b.toNatClampNeg) 6) ∧ (((0 ≤ b ∧ b < 20) ∧ b.toNatClampNeg < nM (cR (cExS σ 6 a.toNatClampNeg b.toNatClampNeg) 6)) ∧ TC (cExS σ 6 a.toNatClampNeg b.toNatClampNeg) 6) ∧ ((0 ≤ a ∧ a < 20) ∧ (0 ≤ b ∧ b < 20)) ∧ ((¬ ((fJo (cR (cExS σ 6 a.toNatClampNeg b.toNatClampNeg) 6) a.toNatClampNeg) - (fJo (cR σ 6) a.toNatClampNeg)) < x → ((¬ ((fJo (cR (cExS σ 6 a.toNatClampNeg b.toNatClampNeg) 6) b.toNatClampNeg) - (fJo (cR σ 6) b.toNatClampNeg)) < (-x) → K (some (.int 0)) (cExS (cExS σ 6 a.toNatClampNeg b.toNatClampNeg) 6 a.toNatClampNeg b.toNatClampNeg)) ∧ (((fJo (cR (cExS σ 6 a.toNatClampNeg b.toNatClampNeg) 6) b.toNatClampNeg) - (fJo (cR σ 6) b.toNatClampNeg)) < (-x) → K (some (.int 4)) (cExS (cExS σ 6 a.toNatClampNeg b.toNatClampNeg) 6 a.toNatClampNeg b.toNatClampNeg)))) ∧ (((fJo (cR (cExS σ 6 a.toNatClampNeg b.toNatClampNeg) 6) a.toNatClampNeg) - (fJo (cR σ 6) a.toNatClampNeg)) < x → K (some (.int 3)) (cExS (cExS σ 6 a.toNatClampNeg b.toNatClampNeg) 6 a.toNatClampNeg b.toNatClampNeg)))) ∧ ((σ (6 + 2 + a.toNatClampNeg) 8) < x → K (some (.int 2)) σ))) ∧ ((bI (fMay (cR σ 6) b.toNatClampNeg (σ (6 + 2 + a.toNatClampNeg) 1))) = 0 → K (some (.int 1)) σ))))) : gE 88 0 [some (.ref 6), some (.int a), some (.int b), some (.int x), none, none, none, none] [] σ K :=
  w88_6_V (cExSV := cExS) (cPasV := cPas) gpck_ok h
theorem s88_6 {σ : gS} {K : gK} {a b x : Int32} (hc : isN σ 6 a ∧ isN σ 6 b ∧ TC σ 6) (hK : K (some (.int (fWhy (cR σ 6) a.toNatClampNeg b.toNatClampNeg x))) σ) : gE 88 0 [some (.ref 6), some (.int a), some (.int b), some (.int x), none, none, none, none] [] σ K := by
  obtain ⟨ha, hb, hT⟩ := hc
  obtain ⟨r1, t1, f1⟩ := cExS_ok hT ha.2 hb.2
  have tva := tv_6 _ (n20 ha.1)
  have tvb := tv_6 _ (n20 hb.1)
  have ea := cR_f (σ := σ) (p := 6) (t := a.toNatClampNeg) (f := 0) (n20 ha.1) (by decide)
  have eb := cR_f (σ := σ) (p := 6) (t := b.toNatClampNeg) (f := 0) (n20 hb.1) (by decide)
  have e7 := cR_f (σ := σ) (p := 6) (t := a.toNatClampNeg) (f := 7) (n20 ha.1) (by decide)
  have na := ha.1
  have nb := hb.1
  have c1 : isN (cExS σ 6 a.toNatClampNeg b.toNatClampNeg) 6 a := ⟨ha.1, by rw [r1, nM_rsw]; exact ha.2⟩
  have c2 : isN (cExS σ 6 a.toNatClampNeg b.toNatClampNeg) 6 b := ⟨hb.1, by rw [r1, nM_rsw]; exact hb.2⟩
  unfold fWhy fRise at hK
  rw [ea, eb, e7, ← r1] at hK
  refine w88_6 ?_
  rw [cExS_bk hT ha.2 hb.2]
  simp only [bI_0]
  grind
set_option maxRecDepth 20000 in
theorem w88_32_V {cExSV : gS → Nat → Nat → Nat → gS} {cPasV : gS → Nat → Nat → Nat → Nat → gS} (hp : gPok (gpckV cExSV cPasV)) {σ : gS} {K : gK} {a b x : Int32} (h : (0 ≤ b ∧ b < 20) ∧ gTv (32 + 2 + b.toNatClampNeg) ∧ (0 ≤ a ∧ a < 20) ∧ (((bI (fMay (cR σ 32) a.toNatClampNeg (σ (32 + 2 + b.toNatClampNeg) 1))) = 0 → K (some (.int 1)) σ) ∧ (¬ (bI (fMay (cR σ 32) a.toNatClampNeg (σ (32 + 2 + b.toNatClampNeg) 1))) = 0 → (0 ≤ a ∧ a < 20) ∧ gTv (32 + 2 + a.toNatClampNeg) ∧ (0 ≤ b ∧ b < 20) ∧ ((¬ (bI (fMay (cR σ 32) b.toNatClampNeg (σ (32 + 2 + a.toNatClampNeg) 1))) = 0 → (0 ≤ a ∧ a < 20) ∧ gTv (32 + 2 + a.toNatClampNeg) ∧ ((¬ (σ (32 + 2 + a.toNatClampNeg) 8) < x → (((0 ≤ a ∧ a < 20) ∧ a.toNatClampNeg < nM (cR σ 32)) ∧ TC σ 32) ∧ (((0 ≤ b ∧ b < 20) ∧ b.toNatClampNeg < nM (cR σ 32)) ∧ TC σ 32) ∧ ((0 ≤ a ∧ a < 20) ∧ (0 ≤ b ∧ b < 20)) ∧ (((0 ≤ a ∧ a < 20) ∧ a.toNatClampNeg < nM (cR (cExSV σ 32 a.toNatClampNeg b.toNatClampNeg) 32)) ∧ TC (cExSV σ 32 a.toNatClampNeg b.toNatClampNeg) 32) ∧ (((0 ≤ b ∧ b < 20) ∧ b.toNatClampNeg < nM (cR (cExSV σ 32 a.toNatClampNeg b.toNatClampNeg) 32)) ∧ TC (cExSV σ 32 a.toNatClampNeg b.toNatClampNeg) 32) ∧ ((0 ≤ a ∧ a < 20) ∧ (0 ≤ b ∧ b < 20)) ∧ ((¬ ((fJo (cR (cExSV σ 32 a.toNatClampNeg b.toNatClampNeg) 32) a.toNatClampNeg) - (fJo (cR σ 32) a.toNatClampNeg)) < x → ((¬ ((fJo (cR (cExSV σ 32 a.toNatClampNeg b.toNatClampNeg) 32) b.toNatClampNeg) - (fJo (cR σ 32) b.toNatClampNeg)) < (-x) → K (some (.int 0)) (cExSV (cExSV σ 32 a.toNatClampNeg b.toNatClampNeg) 32 a.toNatClampNeg b.toNatClampNeg)) ∧ (((fJo (cR (cExSV σ 32 a.toNatClampNeg b.toNatClampNeg) 32) b.toNatClampNeg) - (fJo (cR σ 32) b.toNatClampNeg)) < (-x) → K (some (.int 4)) (cExSV (cExSV σ 32 a.toNatClampNeg b.toNatClampNeg) 32 a.toNatClampNeg b.toNatClampNeg)))) ∧ (((fJo (cR (cExSV σ 32 a.toNatClampNeg b.toNatClampNeg) 32) a.toNatClampNeg) - (fJo (cR σ 32) a.toNatClampNeg)) < x → K (some (.int 3)) (cExSV (cExSV σ 32 a.toNatClampNeg b.toNatClampNeg) 32 a.toNatClampNeg b.toNatClampNeg)))) ∧ ((σ (32 + 2 + a.toNatClampNeg) 8) < x → K (some (.int 2)) σ))) ∧ ((bI (fMay (cR σ 32) b.toNatClampNeg (σ (32 + 2 + a.toNatClampNeg) 1))) = 0 → K (some (.int 1)) σ))))) : gE 88 0 [some (.ref 32), some (.int a), some (.int b), some (.int x), none, none, none, none] [] σ K :=
  gw_run (cy := 88) (cuts := []) (inl := []) (pf := gpckV cExSV cPasV) hp 400 (by decide) h
theorem w88_32 {σ : gS} {K : gK} {a b x : Int32} (h : (0 ≤ b ∧ b < 20) ∧ gTv (32 + 2 + b.toNatClampNeg) ∧ (0 ≤ a ∧ a < 20) ∧ (((bI (fMay (cR σ 32) a.toNatClampNeg (σ (32 + 2 + b.toNatClampNeg) 1))) = 0 → K (some (.int 1)) σ) ∧ (¬ (bI (fMay (cR σ 32) a.toNatClampNeg (σ (32 + 2 + b.toNatClampNeg) 1))) = 0 → (0 ≤ a ∧ a < 20) ∧ gTv (32 + 2 + a.toNatClampNeg) ∧ (0 ≤ b ∧ b < 20) ∧ ((¬ (bI (fMay (cR σ 32) b.toNatClampNeg (σ (32 + 2 + a.toNatClampNeg) 1))) = 0 → (0 ≤ a ∧ a < 20) ∧ gTv (32 + 2 + a.toNatClampNeg) ∧ ((¬ (σ (32 + 2 + a.toNatClampNeg) 8) < x → (((0 ≤ a ∧ a < 20) ∧ a.toNatClampNeg < nM (cR σ 32)) ∧ TC σ 32) ∧ (((0 ≤ b ∧ b < 20) ∧ b.toNatClampNeg < nM (cR σ 32)) ∧ TC σ 32) ∧ ((0 ≤ a ∧ a < 20) ∧ (0 ≤ b ∧ b < 20)) ∧ (((0 ≤ a ∧ a < 20) ∧ a.toNatClampNeg < nM (cR (cExS σ 32 a.toNatClampNeg b.toNatClampNeg) 32)) ∧ TC (cExS σ 32 a.toNatClampNeg b.toNatClampNeg) 32) ∧ (((0 ≤ b ∧ b < 20) ∧ b.toNatClampNeg < nM (cR (cExS σ 32 a.toNatClampNeg b.toNatClampNeg) 32)) ∧ TC (cExS σ 32 a.toNatClampNeg b.toNatClampNeg) 32) ∧ ((0 ≤ a ∧ a < 20) ∧ (0 ≤ b ∧ b < 20)) ∧ ((¬ ((fJo (cR (cExS σ 32 a.toNatClampNeg b.toNatClampNeg) 32) a.toNatClampNeg) - (fJo (cR σ 32) a.toNatClampNeg)) < x → ((¬ ((fJo (cR (cExS σ 32 a.toNatClampNeg b.toNatClampNeg) 32) b.toNatClampNeg) - (fJo (cR σ 32) b.toNatClampNeg)) < (-x) → K (some (.int 0)) (cExS (cExS σ 32 a.toNatClampNeg b.toNatClampNeg) 32 a.toNatClampNeg b.toNatClampNeg)) ∧ (((fJo (cR (cExS σ 32 a.toNatClampNeg b.toNatClampNeg) 32) b.toNatClampNeg) - (fJo (cR σ 32) b.toNatClampNeg)) < (-x) → K (some (.int 4)) (cExS (cExS σ 32 a.toNatClampNeg b.toNatClampNeg) 32 a.toNatClampNeg b.toNatClampNeg)))) ∧ (((fJo (cR (cExS σ 32 a.toNatClampNeg b.toNatClampNeg) 32) a.toNatClampNeg) - (fJo (cR σ 32) a.toNatClampNeg)) < x → K (some (.int 3)) (cExS (cExS σ 32 a.toNatClampNeg b.toNatClampNeg) 32 a.toNatClampNeg b.toNatClampNeg)))) ∧ ((σ (32 + 2 + a.toNatClampNeg) 8) < x → K (some (.int 2)) σ))) ∧ ((bI (fMay (cR σ 32) b.toNatClampNeg (σ (32 + 2 + a.toNatClampNeg) 1))) = 0 → K (some (.int 1)) σ))))) : gE 88 0 [some (.ref 32), some (.int a), some (.int b), some (.int x), none, none, none, none] [] σ K :=
  w88_32_V (cExSV := cExS) (cPasV := cPas) gpck_ok h
theorem s88_32 {σ : gS} {K : gK} {a b x : Int32} (hc : isN σ 32 a ∧ isN σ 32 b ∧ TC σ 32) (hK : K (some (.int (fWhy (cR σ 32) a.toNatClampNeg b.toNatClampNeg x))) σ) : gE 88 0 [some (.ref 32), some (.int a), some (.int b), some (.int x), none, none, none, none] [] σ K := by
  obtain ⟨ha, hb, hT⟩ := hc
  obtain ⟨r1, t1, f1⟩ := cExS_ok hT ha.2 hb.2
  have tva := tv_32 _ (n20 ha.1)
  have tvb := tv_32 _ (n20 hb.1)
  have ea := cR_f (σ := σ) (p := 32) (t := a.toNatClampNeg) (f := 0) (n20 ha.1) (by decide)
  have eb := cR_f (σ := σ) (p := 32) (t := b.toNatClampNeg) (f := 0) (n20 hb.1) (by decide)
  have e7 := cR_f (σ := σ) (p := 32) (t := a.toNatClampNeg) (f := 7) (n20 ha.1) (by decide)
  have na := ha.1
  have nb := hb.1
  have c1 : isN (cExS σ 32 a.toNatClampNeg b.toNatClampNeg) 32 a := ⟨ha.1, by rw [r1, nM_rsw]; exact ha.2⟩
  have c2 : isN (cExS σ 32 a.toNatClampNeg b.toNatClampNeg) 32 b := ⟨hb.1, by rw [r1, nM_rsw]; exact hb.2⟩
  unfold fWhy fRise at hK
  rw [ea, eb, e7, ← r1] at hK
  refine w88_32 ?_
  rw [cExS_bk hT ha.2 hb.2]
  simp only [bI_0]
  grind
noncomputable def f88 : gD := fun Lv σ => match Lv with
  | [some (.ref p), some (.int a), some (.int b), some (.int x), none, none, none, none] => cond (Nat.beq p 6 || Nat.beq p 32) (some (some (isN σ p a ∧ isN σ p b ∧ TC σ p), some (.int (fWhy (cR σ p) a.toNatClampNeg b.toNatClampNeg x)), σ)) none
  | _ => none
theorem ok88 : gFok 88 f88 := by
  intro Lv σ q h hc K hK
  unfold f88 at h
  split at h
  · rename_i p a b x
    obtain ⟨hb, h⟩ := c_no h
    have hb0 := hb
    rcases s_or hb0 with hb0 | hb0
    · have e := b_eq hb0
      subst e
      cases h
      exact s88_6 (hc _ rfl) hK
    · have e := b_eq hb0
      subst e
      cases h
      exact s88_32 (hc _ rfl) hK
  · cases h
set_option maxRecDepth 20000 in
theorem w90_6 {σ : gS} {K : gK} {t x : Int32} (h : (0 ≤ σ 6 7 ∧ σ 6 7 ≤ 20) ∧ ((¬ (bI (fWho (cR σ 6) x = -2)) = 0 → (0 ≤ t ∧ t < 20) ∧ ((¬ (bI (fMay (cR σ 6) t.toNatClampNeg x)) = 0 → (((0 ≤ t ∧ t < 20) ∧ t.toNatClampNeg < nM (cR σ 6)) ∧ (0 ≤ x ∧ x < 40) ∧ TC σ 6) ∧ (((0 ≤ t ∧ t < 20) ∧ t.toNatClampNeg < nM (cR σ 6)) ∧ TC σ 6) ∧ ((¬ (fJoy (cR σ 6) t.toNatClampNeg x) < (fJo (cR σ 6) t.toNatClampNeg) → K (some (.int 0)) σ) ∧ ((fJoy (cR σ 6) t.toNatClampNeg x) < (fJo (cR σ 6) t.toNatClampNeg) → K (some (.int 6)) σ))) ∧ ((bI (fMay (cR σ 6) t.toNatClampNeg x)) = 0 → K (some (.int 1)) σ))) ∧ ((bI (fWho (cR σ 6) x = -2)) = 0 → K (some (.int 5)) σ))) : gE 90 0 [some (.ref 6), some (.int t), some (.int x)] [] σ K :=
  gw_run (cy := 90) (cuts := []) (inl := []) (pf := gpck) gpck_ok 400 (by decide) h
theorem s90_6 {σ : gS} {K : gK} {t x : Int32} (hc : isN σ 6 t ∧ (0 ≤ x ∧ x < 40) ∧ TC σ 6) (hK : K (some (.int (fWhyM (cR σ 6) t.toNatClampNeg x))) σ) : gE 90 0 [some (.ref 6), some (.int t), some (.int x)] [] σ K := by
  obtain ⟨ht, hx, hT⟩ := hc
  have h3 := hT.1
  have h7 : 0 ≤ σ 6 7 ∧ σ 6 7 ≤ 20 := by rw [← cR_3 σ 6]; exact h3
  have hw := fWho_c (cR σ 6) x h3
  unfold fWhyM at hK
  refine w90_6 ?_
  simp only [bI_0]
  grind
set_option maxRecDepth 20000 in
theorem w90_32 {σ : gS} {K : gK} {t x : Int32} (h : (0 ≤ σ 32 7 ∧ σ 32 7 ≤ 20) ∧ ((¬ (bI (fWho (cR σ 32) x = -2)) = 0 → (0 ≤ t ∧ t < 20) ∧ ((¬ (bI (fMay (cR σ 32) t.toNatClampNeg x)) = 0 → (((0 ≤ t ∧ t < 20) ∧ t.toNatClampNeg < nM (cR σ 32)) ∧ (0 ≤ x ∧ x < 40) ∧ TC σ 32) ∧ (((0 ≤ t ∧ t < 20) ∧ t.toNatClampNeg < nM (cR σ 32)) ∧ TC σ 32) ∧ ((¬ (fJoy (cR σ 32) t.toNatClampNeg x) < (fJo (cR σ 32) t.toNatClampNeg) → K (some (.int 0)) σ) ∧ ((fJoy (cR σ 32) t.toNatClampNeg x) < (fJo (cR σ 32) t.toNatClampNeg) → K (some (.int 6)) σ))) ∧ ((bI (fMay (cR σ 32) t.toNatClampNeg x)) = 0 → K (some (.int 1)) σ))) ∧ ((bI (fWho (cR σ 32) x = -2)) = 0 → K (some (.int 5)) σ))) : gE 90 0 [some (.ref 32), some (.int t), some (.int x)] [] σ K :=
  gw_run (cy := 90) (cuts := []) (inl := []) (pf := gpck) gpck_ok 400 (by decide) h
theorem s90_32 {σ : gS} {K : gK} {t x : Int32} (hc : isN σ 32 t ∧ (0 ≤ x ∧ x < 40) ∧ TC σ 32) (hK : K (some (.int (fWhyM (cR σ 32) t.toNatClampNeg x))) σ) : gE 90 0 [some (.ref 32), some (.int t), some (.int x)] [] σ K := by
  obtain ⟨ht, hx, hT⟩ := hc
  have h3 := hT.1
  have h7 : 0 ≤ σ 32 7 ∧ σ 32 7 ≤ 20 := by rw [← cR_3 σ 32]; exact h3
  have hw := fWho_c (cR σ 32) x h3
  unfold fWhyM at hK
  refine w90_32 ?_
  simp only [bI_0]
  grind
noncomputable def f90 : gD := fun Lv σ => match Lv with
  | [some (.ref p), some (.int t), some (.int x)] => cond (Nat.beq p 6 || Nat.beq p 32) (some (some (isN σ p t ∧ (0 ≤ x ∧ x < 40) ∧ TC σ p), some (.int (fWhyM (cR σ p) t.toNatClampNeg x)), σ)) none
  | _ => none
theorem ok90 : gFok 90 f90 := by
  intro Lv σ q h hc K hK
  unfold f90 at h
  split at h
  · rename_i p t x
    obtain ⟨hb, h⟩ := c_no h
    have hb0 := hb
    rcases s_or hb0 with hb0 | hb0
    · have e := b_eq hb0
      subst e
      cases h
      exact s90_6 (hc _ rfl) hK
    · have e := b_eq hb0
      subst e
      cases h
      exact s90_32 (hc _ rfl) hK
  · cases h
set_option maxRecDepth 20000 in
theorem w93_6_V {cExSV : gS → Nat → Nat → Nat → gS} {cPasV : gS → Nat → Nat → Nat → Nat → gS} (hp : gPok (gpckV cExSV cPasV)) {σ : gS} {K : gK} {a b c : Int32} (h : (((0 ≤ a ∧ a < 20) ∧ a.toNatClampNeg < nM (cR σ 6)) ∧ TC σ 6) ∧ (((0 ≤ b ∧ b < 20) ∧ b.toNatClampNeg < nM (cR σ 6)) ∧ TC σ 6) ∧ (((0 ≤ c ∧ c < 20) ∧ c.toNatClampNeg < nM (cR σ 6)) ∧ TC σ 6) ∧ ((0 ≤ a ∧ a < 20) ∧ (0 ≤ b ∧ b < 20) ∧ (0 ≤ c ∧ c < 20)) ∧ (((0 ≤ a ∧ a < 20) ∧ a.toNatClampNeg < nM (cR (cPasV σ 6 a.toNatClampNeg b.toNatClampNeg c.toNatClampNeg) 6)) ∧ TC (cPasV σ 6 a.toNatClampNeg b.toNatClampNeg c.toNatClampNeg) 6) ∧ (((0 ≤ b ∧ b < 20) ∧ b.toNatClampNeg < nM (cR (cPasV σ 6 a.toNatClampNeg b.toNatClampNeg c.toNatClampNeg) 6)) ∧ TC (cPasV σ 6 a.toNatClampNeg b.toNatClampNeg c.toNatClampNeg) 6) ∧ (((0 ≤ c ∧ c < 20) ∧ c.toNatClampNeg < nM (cR (cPasV σ 6 a.toNatClampNeg b.toNatClampNeg c.toNatClampNeg) 6)) ∧ TC (cPasV σ 6 a.toNatClampNeg b.toNatClampNeg c.toNatClampNeg) 6) ∧ ((0 ≤ c ∧ c < 20) ∧ (0 ≤ b ∧ b < 20) ∧ (0 ≤ a ∧ a < 20)) ∧ K (some (.int ((((fJo (cR (cPasV σ 6 a.toNatClampNeg b.toNatClampNeg c.toNatClampNeg) 6) a.toNatClampNeg) + (fJo (cR (cPasV σ 6 a.toNatClampNeg b.toNatClampNeg c.toNatClampNeg) 6) b.toNatClampNeg)) + (fJo (cR (cPasV σ 6 a.toNatClampNeg b.toNatClampNeg c.toNatClampNeg) 6) c.toNatClampNeg)) - (((fJo (cR σ 6) a.toNatClampNeg) + (fJo (cR σ 6) b.toNatClampNeg)) + (fJo (cR σ 6) c.toNatClampNeg))))) (cPasV (cPasV σ 6 a.toNatClampNeg b.toNatClampNeg c.toNatClampNeg) 6 c.toNatClampNeg b.toNatClampNeg a.toNatClampNeg)) : gE 93 0 [some (.ref 6), some (.int a), some (.int b), some (.int c), none, none] [] σ K :=
  gw_run (cy := 93) (cuts := []) (inl := []) (pf := gpckV cExSV cPasV) hp 400 (by decide) h
theorem w93_6 {σ : gS} {K : gK} {a b c : Int32} (h : (((0 ≤ a ∧ a < 20) ∧ a.toNatClampNeg < nM (cR σ 6)) ∧ TC σ 6) ∧ (((0 ≤ b ∧ b < 20) ∧ b.toNatClampNeg < nM (cR σ 6)) ∧ TC σ 6) ∧ (((0 ≤ c ∧ c < 20) ∧ c.toNatClampNeg < nM (cR σ 6)) ∧ TC σ 6) ∧ ((0 ≤ a ∧ a < 20) ∧ (0 ≤ b ∧ b < 20) ∧ (0 ≤ c ∧ c < 20)) ∧ (((0 ≤ a ∧ a < 20) ∧ a.toNatClampNeg < nM (cR (cPas σ 6 a.toNatClampNeg b.toNatClampNeg c.toNatClampNeg) 6)) ∧ TC (cPas σ 6 a.toNatClampNeg b.toNatClampNeg c.toNatClampNeg) 6) ∧ (((0 ≤ b ∧ b < 20) ∧ b.toNatClampNeg < nM (cR (cPas σ 6 a.toNatClampNeg b.toNatClampNeg c.toNatClampNeg) 6)) ∧ TC (cPas σ 6 a.toNatClampNeg b.toNatClampNeg c.toNatClampNeg) 6) ∧ (((0 ≤ c ∧ c < 20) ∧ c.toNatClampNeg < nM (cR (cPas σ 6 a.toNatClampNeg b.toNatClampNeg c.toNatClampNeg) 6)) ∧ TC (cPas σ 6 a.toNatClampNeg b.toNatClampNeg c.toNatClampNeg) 6) ∧ ((0 ≤ c ∧ c < 20) ∧ (0 ≤ b ∧ b < 20) ∧ (0 ≤ a ∧ a < 20)) ∧ K (some (.int ((((fJo (cR (cPas σ 6 a.toNatClampNeg b.toNatClampNeg c.toNatClampNeg) 6) a.toNatClampNeg) + (fJo (cR (cPas σ 6 a.toNatClampNeg b.toNatClampNeg c.toNatClampNeg) 6) b.toNatClampNeg)) + (fJo (cR (cPas σ 6 a.toNatClampNeg b.toNatClampNeg c.toNatClampNeg) 6) c.toNatClampNeg)) - (((fJo (cR σ 6) a.toNatClampNeg) + (fJo (cR σ 6) b.toNatClampNeg)) + (fJo (cR σ 6) c.toNatClampNeg))))) (cPas (cPas σ 6 a.toNatClampNeg b.toNatClampNeg c.toNatClampNeg) 6 c.toNatClampNeg b.toNatClampNeg a.toNatClampNeg)) : gE 93 0 [some (.ref 6), some (.int a), some (.int b), some (.int c), none, none] [] σ K :=
  w93_6_V (cExSV := cExS) (cPasV := cPas) gpck_ok h
theorem s93_6 {σ : gS} {K : gK} {a b c : Int32} (hc : (isN σ 6 a ∧ isN σ 6 b ∧ isN σ 6 c) ∧ (a.toNatClampNeg ≠ b.toNatClampNeg ∧ b.toNatClampNeg ≠ c.toNatClampNeg ∧ a.toNatClampNeg ≠ c.toNatClampNeg) ∧ TC σ 6) (hK : K (some (.int (fROR (cR σ 6) a.toNatClampNeg b.toNatClampNeg c.toNatClampNeg))) σ) : gE 93 0 [some (.ref 6), some (.int a), some (.int b), some (.int c), none, none] [] σ K := by
  obtain ⟨⟨ha, hb, hcc⟩, hd, hT⟩ := hc
  obtain ⟨r1, t1, f1⟩ := cPas_ok hT ha.2 hb.2 hcc.2 hd
  have c1 : isN (cPas σ 6 a.toNatClampNeg b.toNatClampNeg c.toNatClampNeg) 6 a := ⟨ha.1, by rw [r1, nM_rtu hd]; exact ha.2⟩
  have c2 : isN (cPas σ 6 a.toNatClampNeg b.toNatClampNeg c.toNatClampNeg) 6 b := ⟨hb.1, by rw [r1, nM_rtu hd]; exact hb.2⟩
  have c3 : isN (cPas σ 6 a.toNatClampNeg b.toNatClampNeg c.toNatClampNeg) 6 c := ⟨hcc.1, by rw [r1, nM_rtu hd]; exact hcc.2⟩
  refine w93_6 ⟨⟨ha, hT⟩, ⟨hb, hT⟩, ⟨hcc, hT⟩, ⟨ha.1, hb.1, hcc.1⟩, ⟨c1, t1⟩, ⟨c2, t1⟩, ⟨c3, t1⟩, ⟨hcc.1, hb.1, ha.1⟩, ?_⟩
  rw [cPas_bk hT ha.2 hb.2 hcc.2 hd, r1]
  have e : fROR (cR σ 6) a.toNatClampNeg b.toNatClampNeg c.toNatClampNeg = fJo (rtu (cR σ 6) a.toNatClampNeg b.toNatClampNeg c.toNatClampNeg) a.toNatClampNeg + fJo (rtu (cR σ 6) a.toNatClampNeg b.toNatClampNeg c.toNatClampNeg) b.toNatClampNeg + fJo (rtu (cR σ 6) a.toNatClampNeg b.toNatClampNeg c.toNatClampNeg) c.toNatClampNeg - (fJo (cR σ 6) a.toNatClampNeg + fJo (cR σ 6) b.toNatClampNeg + fJo (cR σ 6) c.toNatClampNeg) := by
    unfold fROR fRR
    grind
  rw [e] at hK
  exact hK
set_option maxRecDepth 20000 in
theorem w93_32_V {cExSV : gS → Nat → Nat → Nat → gS} {cPasV : gS → Nat → Nat → Nat → Nat → gS} (hp : gPok (gpckV cExSV cPasV)) {σ : gS} {K : gK} {a b c : Int32} (h : (((0 ≤ a ∧ a < 20) ∧ a.toNatClampNeg < nM (cR σ 32)) ∧ TC σ 32) ∧ (((0 ≤ b ∧ b < 20) ∧ b.toNatClampNeg < nM (cR σ 32)) ∧ TC σ 32) ∧ (((0 ≤ c ∧ c < 20) ∧ c.toNatClampNeg < nM (cR σ 32)) ∧ TC σ 32) ∧ ((0 ≤ a ∧ a < 20) ∧ (0 ≤ b ∧ b < 20) ∧ (0 ≤ c ∧ c < 20)) ∧ (((0 ≤ a ∧ a < 20) ∧ a.toNatClampNeg < nM (cR (cPasV σ 32 a.toNatClampNeg b.toNatClampNeg c.toNatClampNeg) 32)) ∧ TC (cPasV σ 32 a.toNatClampNeg b.toNatClampNeg c.toNatClampNeg) 32) ∧ (((0 ≤ b ∧ b < 20) ∧ b.toNatClampNeg < nM (cR (cPasV σ 32 a.toNatClampNeg b.toNatClampNeg c.toNatClampNeg) 32)) ∧ TC (cPasV σ 32 a.toNatClampNeg b.toNatClampNeg c.toNatClampNeg) 32) ∧ (((0 ≤ c ∧ c < 20) ∧ c.toNatClampNeg < nM (cR (cPasV σ 32 a.toNatClampNeg b.toNatClampNeg c.toNatClampNeg) 32)) ∧ TC (cPasV σ 32 a.toNatClampNeg b.toNatClampNeg c.toNatClampNeg) 32) ∧ ((0 ≤ c ∧ c < 20) ∧ (0 ≤ b ∧ b < 20) ∧ (0 ≤ a ∧ a < 20)) ∧ K (some (.int ((((fJo (cR (cPasV σ 32 a.toNatClampNeg b.toNatClampNeg c.toNatClampNeg) 32) a.toNatClampNeg) + (fJo (cR (cPasV σ 32 a.toNatClampNeg b.toNatClampNeg c.toNatClampNeg) 32) b.toNatClampNeg)) + (fJo (cR (cPasV σ 32 a.toNatClampNeg b.toNatClampNeg c.toNatClampNeg) 32) c.toNatClampNeg)) - (((fJo (cR σ 32) a.toNatClampNeg) + (fJo (cR σ 32) b.toNatClampNeg)) + (fJo (cR σ 32) c.toNatClampNeg))))) (cPasV (cPasV σ 32 a.toNatClampNeg b.toNatClampNeg c.toNatClampNeg) 32 c.toNatClampNeg b.toNatClampNeg a.toNatClampNeg)) : gE 93 0 [some (.ref 32), some (.int a), some (.int b), some (.int c), none, none] [] σ K :=
  gw_run (cy := 93) (cuts := []) (inl := []) (pf := gpckV cExSV cPasV) hp 400 (by decide) h
theorem w93_32 {σ : gS} {K : gK} {a b c : Int32} (h : (((0 ≤ a ∧ a < 20) ∧ a.toNatClampNeg < nM (cR σ 32)) ∧ TC σ 32) ∧ (((0 ≤ b ∧ b < 20) ∧ b.toNatClampNeg < nM (cR σ 32)) ∧ TC σ 32) ∧ (((0 ≤ c ∧ c < 20) ∧ c.toNatClampNeg < nM (cR σ 32)) ∧ TC σ 32) ∧ ((0 ≤ a ∧ a < 20) ∧ (0 ≤ b ∧ b < 20) ∧ (0 ≤ c ∧ c < 20)) ∧ (((0 ≤ a ∧ a < 20) ∧ a.toNatClampNeg < nM (cR (cPas σ 32 a.toNatClampNeg b.toNatClampNeg c.toNatClampNeg) 32)) ∧ TC (cPas σ 32 a.toNatClampNeg b.toNatClampNeg c.toNatClampNeg) 32) ∧ (((0 ≤ b ∧ b < 20) ∧ b.toNatClampNeg < nM (cR (cPas σ 32 a.toNatClampNeg b.toNatClampNeg c.toNatClampNeg) 32)) ∧ TC (cPas σ 32 a.toNatClampNeg b.toNatClampNeg c.toNatClampNeg) 32) ∧ (((0 ≤ c ∧ c < 20) ∧ c.toNatClampNeg < nM (cR (cPas σ 32 a.toNatClampNeg b.toNatClampNeg c.toNatClampNeg) 32)) ∧ TC (cPas σ 32 a.toNatClampNeg b.toNatClampNeg c.toNatClampNeg) 32) ∧ ((0 ≤ c ∧ c < 20) ∧ (0 ≤ b ∧ b < 20) ∧ (0 ≤ a ∧ a < 20)) ∧ K (some (.int ((((fJo (cR (cPas σ 32 a.toNatClampNeg b.toNatClampNeg c.toNatClampNeg) 32) a.toNatClampNeg) + (fJo (cR (cPas σ 32 a.toNatClampNeg b.toNatClampNeg c.toNatClampNeg) 32) b.toNatClampNeg)) + (fJo (cR (cPas σ 32 a.toNatClampNeg b.toNatClampNeg c.toNatClampNeg) 32) c.toNatClampNeg)) - (((fJo (cR σ 32) a.toNatClampNeg) + (fJo (cR σ 32) b.toNatClampNeg)) + (fJo (cR σ 32) c.toNatClampNeg))))) (cPas (cPas σ 32 a.toNatClampNeg b.toNatClampNeg c.toNatClampNeg) 32 c.toNatClampNeg b.toNatClampNeg a.toNatClampNeg)) : gE 93 0 [some (.ref 32), some (.int a), some (.int b), some (.int c), none, none] [] σ K :=
  w93_32_V (cExSV := cExS) (cPasV := cPas) gpck_ok h
theorem s93_32 {σ : gS} {K : gK} {a b c : Int32} (hc : (isN σ 32 a ∧ isN σ 32 b ∧ isN σ 32 c) ∧ (a.toNatClampNeg ≠ b.toNatClampNeg ∧ b.toNatClampNeg ≠ c.toNatClampNeg ∧ a.toNatClampNeg ≠ c.toNatClampNeg) ∧ TC σ 32) (hK : K (some (.int (fROR (cR σ 32) a.toNatClampNeg b.toNatClampNeg c.toNatClampNeg))) σ) : gE 93 0 [some (.ref 32), some (.int a), some (.int b), some (.int c), none, none] [] σ K := by
  obtain ⟨⟨ha, hb, hcc⟩, hd, hT⟩ := hc
  obtain ⟨r1, t1, f1⟩ := cPas_ok hT ha.2 hb.2 hcc.2 hd
  have c1 : isN (cPas σ 32 a.toNatClampNeg b.toNatClampNeg c.toNatClampNeg) 32 a := ⟨ha.1, by rw [r1, nM_rtu hd]; exact ha.2⟩
  have c2 : isN (cPas σ 32 a.toNatClampNeg b.toNatClampNeg c.toNatClampNeg) 32 b := ⟨hb.1, by rw [r1, nM_rtu hd]; exact hb.2⟩
  have c3 : isN (cPas σ 32 a.toNatClampNeg b.toNatClampNeg c.toNatClampNeg) 32 c := ⟨hcc.1, by rw [r1, nM_rtu hd]; exact hcc.2⟩
  refine w93_32 ⟨⟨ha, hT⟩, ⟨hb, hT⟩, ⟨hcc, hT⟩, ⟨ha.1, hb.1, hcc.1⟩, ⟨c1, t1⟩, ⟨c2, t1⟩, ⟨c3, t1⟩, ⟨hcc.1, hb.1, ha.1⟩, ?_⟩
  rw [cPas_bk hT ha.2 hb.2 hcc.2 hd, r1]
  have e : fROR (cR σ 32) a.toNatClampNeg b.toNatClampNeg c.toNatClampNeg = fJo (rtu (cR σ 32) a.toNatClampNeg b.toNatClampNeg c.toNatClampNeg) a.toNatClampNeg + fJo (rtu (cR σ 32) a.toNatClampNeg b.toNatClampNeg c.toNatClampNeg) b.toNatClampNeg + fJo (rtu (cR σ 32) a.toNatClampNeg b.toNatClampNeg c.toNatClampNeg) c.toNatClampNeg - (fJo (cR σ 32) a.toNatClampNeg + fJo (cR σ 32) b.toNatClampNeg + fJo (cR σ 32) c.toNatClampNeg) := by
    unfold fROR fRR
    grind
  rw [e] at hK
  exact hK
noncomputable def f93 : gD := fun Lv σ => match Lv with
  | [some (.ref p), some (.int a), some (.int b), some (.int c), none, none] => cond (Nat.beq p 6 || Nat.beq p 32) (some (some ((isN σ p a ∧ isN σ p b ∧ isN σ p c) ∧ (a.toNatClampNeg ≠ b.toNatClampNeg ∧ b.toNatClampNeg ≠ c.toNatClampNeg ∧ a.toNatClampNeg ≠ c.toNatClampNeg) ∧ TC σ p), some (.int (fROR (cR σ p) a.toNatClampNeg b.toNatClampNeg c.toNatClampNeg)), σ)) none
  | _ => none
theorem ok93 : gFok 93 f93 := by
  intro Lv σ q h hc K hK
  unfold f93 at h
  split at h
  · rename_i p a b c
    obtain ⟨hb, h⟩ := c_no h
    have hb0 := hb
    rcases s_or hb0 with hb0 | hb0
    · have e := b_eq hb0
      subst e
      cases h
      exact s93_6 (hc _ rfl) hK
    · have e := b_eq hb0
      subst e
      cases h
      exact s93_32 (hc _ rfl) hK
  · cases h
