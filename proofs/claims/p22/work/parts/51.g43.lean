-- text 43
/-! THE CLASS: a traveller gets off -/
theorem cnt_del {P : Nat → Bool} {t : Nat} : ∀ {n : Nat}, t ≤ n → cnt (fun j => P (if j < t then j else j + 1)) n + (if P t = true then 1 else 0) = cnt P (n + 1)
  | n, h => by
    induction n with
    | zero =>
      have : t = 0 := by omega
      subst this
      rfl
    | succ n ih =>
      by_cases e : t = n + 1
      · subst e
        have : cnt (fun j => P (if j < n + 1 then j else j + 1)) (n + 1) = cnt P (n + 1) := cnt_congr (fun j hj => by show P (if j < n + 1 then j else j + 1) = P j; rw [if_pos hj])
        rw [this]
        rfl
      · have i := ih (by omega)
        show cnt (fun j => P (if j < t then j else j + 1)) n + (if P (if n < t then n else n + 1) = true then 1 else 0) + (if P t = true then 1 else 0) = cnt P (n + 1) + (if P (n + 1) = true then 1 else 0)
        rw [if_neg (show ¬ n < t by omega)]
        omega
/-- travellers from t on moved down -/
def cShN (σ : gS) (t : Nat) : Nat → gS
  | 0 => σ
  | k + 1 => cTv (cShN σ t k) (8 + t + k) (8 + t + k + 1)
theorem cSh_e (σ : gS) (t : Nat) : ∀ (k q i : Nat), cShN σ t k q i = if 8 + t ≤ q ∧ q < 8 + t + k ∧ i < 10 then σ (q + 1) i else σ q i
  | 0, q, i => by rw [if_neg (by omega)]; rfl
  | k + 1, q, i => by
    show (if q = 8 + t + k ∧ i < 10 then cShN σ t k (8 + t + k + 1) i else cShN σ t k q i) = _
    by_cases h : q = 8 + t + k ∧ i < 10
    · rw [if_pos h, cSh_e σ t k, if_neg (by omega), if_pos (by omega), h.1]
    · rw [if_neg h, cSh_e σ t k]
      by_cases h2 : 8 + t ≤ q ∧ q < 8 + t + k ∧ i < 10
      · rw [if_pos h2, if_pos (by omega)]
      · rw [if_neg h2, if_neg (by omega)]
/-- the core: out of the tables, out of the row -/
def cOut (σ : gS) (t n : Nat) : gS := cShN (gup (cCnt σ 6 (8 + t) (-1)) 6 7 (iN n)) t (n - t)
theorem SV_out {σ : gS} {t n : Nat} {R : gW} (h : SV σ 6 R) (hN : nM R = n + 1) (ht : t < nM R) : SV (cOut σ t n) 6 (csh (radd R 3 (-1)) (9 + 10 * t) (10 * (n - t))) := by
  obtain ⟨b3, bn, e7⟩ := SV_3 h
  obtain ⟨a1, ⟨t1, t2, t3⟩, l1, n1⟩ := h
  have eN : nM (cR σ 6) = nM R := agr_n a1
  have e3 : R 3 = iN (n + 1) := by rw [← hN]; exact (nM_of b3).1
  -- the traveller's cell
  obtain ⟨-, hs, hf⟩ := t2 t (by omega)
  have e0 := cR_f (σ := σ) (p := 6) (t := t) (f := 0) (by omega) (by decide)
  have e2 := cR_f (σ := σ) (p := 6) (t := t) (f := 2) (by omega) (by decide)
  obtain ⟨a0, ha0, ea0⟩ := i8 hs
  obtain ⟨f0, hf0, ef0⟩ := i10 hf
  have ec := cCnt_eq (σ := σ) (p := 6) (w := 8 + t) (k := -1) ha0 hf0 (by rw [← ea0, e0, show 6 + 2 + t = 8 + t from by omega]) (by rw [← ef0, e2, show 6 + 2 + t = 8 + t from by omega])
  obtain ⟨S, hS⟩ : ∃ S, csh (radd R 3 (-1)) (9 + 10 * t) (10 * (n - t)) = S := ⟨_, rfl⟩
  obtain ⟨τ, hτ⟩ : ∃ τ, cOut σ t n = τ := ⟨_, rfl⟩
  -- the heap, place by place
  have v : ∀ q i, τ q i = if 8 + t ≤ q ∧ q < 8 + n ∧ i < 10 then σ (q + 1) i else if q = 6 ∧ i = 7 then iN n else if q = 29 ∧ i = a0 * 10 + f0 then σ 29 (a0 * 10 + f0) + -1 else σ q i := by
    intro q i
    rw [← hτ]
    unfold cOut
    rw [cSh_e, ec]
    by_cases h : 8 + t ≤ q ∧ q < 8 + t + (n - t) ∧ i < 10
    · rw [if_pos h, if_pos (by omega), gup_ne (by omega), gup_ne (by omega)]
    · rw [if_neg h, if_neg (by omega)]
      rfl
  have vS : ∀ j, S j = if 9 + 10 * t ≤ j ∧ j < 9 + 10 * n then R (j + 10) else if j = 3 then iN n else R j := by
    intro j
    rw [← hS]
    unfold csh
    by_cases h : 9 + 10 * t ≤ j ∧ j < 9 + 10 * t + 10 * (n - t)
    · rw [if_pos h, if_pos (by omega), radd_ne (by omega)]
    · rw [if_neg h, if_neg (by omega)]
      by_cases h3 : j = 3
      · rw [if_pos h3, h3, radd_at, e3]
        show iN (n + 1) + -1 = iN n
        rw [← Int32.sub_eq_add_neg]
        exact iN_sub (d := 1) (by omega) (by omega)
      · rw [if_neg h3, radd_ne h3]
  rw [hτ, hS]
  have c3 : cR τ 6 3 = iN n := by rw [cR_3, v, if_neg (by omega), if_pos ⟨rfl, rfl⟩]
  have cN : nM (cR τ 6) = n := nM_iN c3 (by omega)
  have sN : nM S = n := nM_iN (by rw [vS, if_neg (by omega), if_pos rfl]) (by omega)
  -- the fields
  have fC : ∀ s, s < n → ∀ f, f < 9 → fld (cR τ 6) s f = fld (cR σ 6) (if s < t then s else s + 1) f := by
    intro s hs f hf
    rw [cR_f (σ := τ) (p := 6) (by omega) hf, v]
    by_cases q : s < t
    · rw [if_pos q, if_neg (by omega), if_neg (by omega), if_neg (by omega), cR_f (σ := σ) (p := 6) (by omega) hf]
    · rw [if_neg q, if_pos (by omega), cR_f (σ := σ) (p := 6) (by omega) hf, show 6 + 2 + s + 1 = 6 + 2 + (s + 1) from by omega]
  have fS : ∀ s, s < n → ∀ f, f < 10 → S (9 + 10 * s + f) = R (9 + 10 * (if s < t then s else s + 1) + f) := by
    intro s hs f hf
    rw [vS]
    by_cases q : s < t
    · rw [if_pos q, if_neg (by omega), if_neg (by omega)]
    · rw [if_neg q, if_pos (by omega), show 9 + 10 * s + f + 10 = 9 + 10 * (s + 1) + f from by omega]
  have lo : ∀ s, s < n → (if s < t then s else s + 1) < nM R := fun s hs => by split <;> omega
  refine ⟨⟨fun j hj => ?_, fun s hs f hf => ?_⟩, ⟨?_, ?_, ?_⟩, ?_, ?_⟩
  · have x1 : cR τ 6 j = if j = 3 then iN n else cR σ 6 j := by
      rw [cR_h hj, v, if_neg (show ¬ (8 + t ≤ 6 ∧ 6 < 8 + n ∧ j + 4 < 10) by omega)]
      by_cases q : j = 3
      · rw [if_pos ⟨rfl, by omega⟩, if_pos q]
      · rw [if_neg (show ¬ (6 = 6 ∧ j + 4 = 7) by omega), if_neg (show ¬ (6 = 29 ∧ j + 4 = a0 * 10 + f0) by omega), if_neg q, cR_h hj]
    have x2 : S j = if j = 3 then iN n else R j := by rw [vS, if_neg (by omega)]
    rw [x1, x2, a1.1 j hj]
  · rw [cN] at hs
    rw [fC s hs f hf]
    show _ = S (9 + 10 * s + f)
    rw [fS s hs f (by omega)]
    exact a1.2 _ (by rw [eN]; exact lo s hs) f hf
  · rw [c3]
    exact ⟨(iN_le (k := 0) (by decide) (by omega)).mpr (by omega), (iN_le (m := 20) (by omega) (by decide)).mpr (by omega)⟩
  · intro s hs
    rw [cN] at hs
    rw [fC s hs 0 (by decide), fC s hs 1 (by decide), fC s hs 2 (by decide)]
    exact t2 _ (by rw [eN]; exact lo s hs)
  · intro a ha g hg
    rw [show 6 + 23 = 29 from rfl, v, if_neg (by omega), if_neg (by omega)]
    have m := t3 a ha g hg
    rw [show 6 + 23 = 29 from rfl] at m
    have md : mem (cR τ 6) (iN a) (iN g) + (if memP (cR σ 6) (iN a) (iN g) t = true then 1 else 0) = mem (cR σ 6) (iN a) (iN g) := by
      unfold mem
      rw [cN, eN, hN, ← cnt_del (P := memP (cR σ 6) (iN a) (iN g)) (t := t) (n := n) (by omega)]
      congr 1
      refine cnt_congr (fun j hj => ?_)
      unfold memP
      rw [fC j hj 0 (by decide), fC j hj 2 (by decide)]
    have mp : memP (cR σ 6) (iN a) (iN g) t = true ↔ (a0 = a ∧ f0 = g) := by
      unfold memP
      rw [decide_eq_true_eq, ea0, ef0, iN_inj (by omega) (by omega), iN_inj (by omega) (by omega)]
    have ml : mem (cR σ 6) (iN a) (iN g) ≤ 20 := by
      unfold mem
      exact Nat.le_trans (cnt_le _ _) (by omega)
    by_cases q : a0 = a ∧ f0 = g
    · rw [if_pos (mp.mpr q)] at md
      obtain ⟨q1, q2⟩ := q
      subst q1 q2
      rw [if_pos ⟨rfl, rfl⟩, m, ← md, ← Int32.sub_eq_add_neg]
      exact iN_sub (d := 1) (by omega) (by omega)
    · rw [if_neg (fun x => q (mp.mp x))] at md
      rw [if_neg (by omega), m, ← md]
      rfl
  · refine LR_same (R := R) ?_ (fun j h3 h4 => by rw [vS, if_neg (by omega), if_neg (by omega)])
    obtain ⟨c1, c2, c4⟩ := l1
    unfold LR bLg
    have e1 : ∀ i, τ (6 + 24) i = σ (6 + 24) i := fun i => by rw [v, if_neg (by omega), if_neg (by omega), if_neg (by omega)]
    have e2 : ∀ i, τ (6 + 24 + 1) i = σ (6 + 24 + 1) i := fun i => by rw [v, if_neg (by omega), if_neg (by omega), if_neg (by omega)]
    simp only [e1, e2]
    exact ⟨c1, c2, c4⟩
  · intro s hs
    rw [sN] at hs
    rw [fS s hs 9 (by decide), v]
    by_cases q : s < t
    · rw [if_pos q, if_neg (by omega), if_neg (by omega), if_neg (by omega)]
      exact n1 s (by omega)
    · rw [if_neg q, if_pos (by omega), show 6 + 2 + s + 1 = 6 + 2 + (s + 1) from by omega]
      exact n1 (s + 1) (by omega)
/-- a traveller gets off -/
def cOff (σ : gS) (t : Nat) : gS := gup (cOut (cAdd σ 4 (iN t) (σ (8 + t) 1)) t ((σ 6 7).toNatClampNeg - 1)) 6 12 (σ 6 12 + 1)
theorem SV_off {σ : gS} {t : Nat} {R : gW} (h : SV σ 6 R) (ht : t < nM R) : SV (cOff σ t) 6 (fOff R t) := by
  obtain ⟨b3, bn, e7⟩ := SV_3 h
  have b9 := LR_b h.2.2.1
  have es : σ (8 + t) 1 = fld R t 0 := by
    have := h.1.2 t (by rw [agr_n h.1]; exact ht) 0 (by decide)
    rw [cR_f (σ := σ) (p := 6) (by omega) (by decide), show 6 + 2 + t = 8 + t from by omega] at this
    exact this
  have en : (σ 6 7).toNatClampNeg - 1 = nM R - 1 := by rw [e7]; rfl
  have s1 := SV_add (w := 4) (a := iN t) (b := fld R t 0) h
  have eN : nM (fTe R 4 (iN t) (fld R t 0)) = nM R := by unfold nM; rw [fTe_ne b9 (by omega)]
  have s2 := SV_out (n := nM R - 1) s1 (by rw [eN]; omega) (by rw [eN]; exact ht)
  have s3 := SV_hdr (k := 8) (x := σ 6 12 + 1) s2 (by decide) (by decide)
  have e8 : σ 6 12 + 1 = csh (radd (fTe R 4 (iN t) (fld R t 0)) 3 (-1)) (9 + 10 * t) (10 * (nM R - 1 - t)) 8 + 1 := by
    rw [csh_lo (by omega), radd_ne (by decide), fTe_ne b9 (by omega)]
    have := h.1.1 8 (by decide)
    rw [cR_h (by decide)] at this
    rw [← this]
  unfold cOff fOff
  rw [en, es]
  unfold radd at e8 s3 ⊢
  rw [← e8, show 10 * (nM R - 1 - t) = 10 * (nM R - 1 - t) from rfl]
  exact s3
-- text 44
/-! THE CLASS: stations -/
set_option maxRecDepth 20000 in
theorem w63 {σ : gS} {K : gK} {t : Int32} (h : (0 ≤ t ∧ t < 20) ∧ gTv (6 + 2 + t.toNatClampNeg) ∧ (bLg σ 30) ∧ (gTv (6 + 2 + t.toNatClampNeg)) ∧ gE 63 37 [some (.ref 6), some (.int t), some (.ref (6 + 2 + t.toNatClampNeg)), some (.int t)] [] (gup (cCnt (cAdd σ (4 : Int32) t (σ (6 + 2 + t.toNatClampNeg) 1)) 6 (6 + 2 + t.toNatClampNeg) ((-1) : Int32)) 6 7 (((cCnt (cAdd σ (4 : Int32) t (σ (6 + 2 + t.toNatClampNeg) 1)) 6 (6 + 2 + t.toNatClampNeg) ((-1) : Int32)) 6 7) - 1)) K) : gE 63 0 [some (.ref 6), some (.int t), none, none] [] σ K :=
  gw_run (cy := 63) (cuts := [37]) (inl := []) (pf := gpda) gpda_ok 400 (by decide) h
set_option maxRecDepth 20000 in
theorem v63 {σ : gS} {K : gK} {t k : Int32} {w : Nat} (h : ((¬ k < (σ 6 7) → K none (gup σ 6 12 ((σ 6 12) + 1))) ∧ (k < (σ 6 7) → (0 ≤ k ∧ k < 20) ∧ (0 ≤ (k + 1) ∧ (k + 1) < 20) ∧ gTv (6 + 2 + k.toNatClampNeg) ∧ (gTv (6 + 2 + k.toNatClampNeg) ∧ gTv (6 + 2 + (k + 1).toNatClampNeg)) ∧ gE 63 37 [some (.ref 6), some (.int t), some (.ref w), some (.int (k + 1))] [] (cTv σ (6 + 2 + k.toNatClampNeg) (6 + 2 + (k + 1).toNatClampNeg)) K))) : gE 63 37 [some (.ref 6), some (.int t), some (.ref w), some (.int k)] [] σ K :=
  gw_run (cy := 63) (cuts := [37]) (inl := []) (pf := gpda) gpda_ok 400 (by decide) h
theorem cCnt_off {σ : gS} {p w q : Nat} {k : Int32} (h : ¬ q = p + 23) : cCnt σ p w k q = σ q := by
  funext j
  unfold cCnt
  split
  · exact gup_ne (by omega)
  · rfl
theorem s63 {σ : gS} {K : gK} {t : Int32} (hc : (0 ≤ t ∧ t < 20) ∧ ∃ R, SV σ 6 R ∧ t.toNatClampNeg < nM R) (hK : K none (cOff σ t.toNatClampNeg)) : gE 63 0 [some (.ref 6), some (.int t), none, none] [] σ K := by
  obtain ⟨ht, R, hR, hl⟩ := hc
  obtain ⟨b3, bn, e7⟩ := SV_3 hR
  obtain ⟨et, lt⟩ := t20 ht
  obtain ⟨m, hm⟩ : ∃ m, t.toNatClampNeg = m := ⟨_, rfl⟩
  rw [hm] at hl et lt hK
  subst et
  have tv := tv_6 m (by omega)
  have nt : (iN m).toNatClampNeg = m := hm
  refine w63 ⟨ht, by rw [nt]; exact tv, hR.2.2.1.1, by rw [nt]; exact tv, ?_⟩
  rw [nt]
  have e8 : 6 + 2 + m = 8 + m := by omega
  rw [e8]
  obtain ⟨N, hN⟩ : ∃ N, nM R = N + 1 := ⟨nM R - 1, by omega⟩
  have eR : R 3 = iN (N + 1) := by rw [← hN]; exact (nM_of b3).1
  have e7' : σ 6 7 = iN (N + 1) := by rw [e7]; exact eR
  have n7 : (σ 6 7).toNatClampNeg - 1 = N := by rw [e7', iN_nat (by omega)]; omega
  unfold cOff cOut at hK
  rw [n7] at hK
  have c7 : cCnt (cAdd σ 4 (iN m) (σ (8 + m) 1)) 6 (8 + m) (-1) 6 7 - 1 = iN N := by
    rw [cCnt_off (by omega), cAdd_far (by omega) (by omega), e7']
    exact iN_sub (d := 1) (by omega) (by omega)
  rw [c7]
  obtain ⟨τ, hτ⟩ : ∃ τ, gup (cCnt (cAdd σ 4 (iN m) (σ (8 + m) 1)) 6 (8 + m) (-1)) 6 7 (iN N) = τ := ⟨_, rfl⟩
  have τ7 : τ 6 7 = iN N := by rw [← hτ, gup_at]
  have τ12 : τ 6 12 = σ 6 12 := by rw [← hτ, gup_ne (by omega), cCnt_off (by omega), cAdd_far (by omega) (by omega)]
  rw [hτ] at hK ⊢
  have far : ∀ k i, cShN τ m k 6 i = τ 6 i := fun k i => by rw [cSh_e, if_neg (by omega)]
  have key : ∀ d k, m + k + d = N → gE 63 37 [some (.ref 6), some (.int (iN m)), some (.ref (8 + m)), some (.int (iN (m + k)))] [] (cShN τ m k) K := by
    intro d
    induction d with
    | zero =>
      intro k hk
      refine v63 ⟨fun _ => ?_, fun h => ?_⟩
      · rw [show N - m = k from by omega] at hK
        rw [far, τ12]
        exact hK
      · rw [far, τ7] at h
        exact absurd ((iN_lt (by omega) (by omega)).mp h) (by omega)
    | succ d ih =>
      intro k hk
      have nk : (iN (m + k)).toNatClampNeg = m + k := iN_nat (by omega)
      have nk1 : (iN (m + k + 1)).toNatClampNeg = m + k + 1 := iN_nat (by omega)
      refine v63 ⟨fun h => ?_, fun _ => ⟨b20 (by omega), ?_⟩⟩
      · exfalso
        apply h
        rw [far, τ7]
        exact (iN_lt (by omega) (by omega)).mpr (by omega)
      · rw [iN_one, nk, nk1]
        refine ⟨b20 (by omega), tv_6 _ (by omega), ⟨tv_6 _ (by omega), tv_6 _ (by omega)⟩, ?_⟩
        have := ih (k + 1) (by omega)
        rw [show m + (k + 1) = m + k + 1 from by omega] at this
        rw [show 6 + 2 + (m + k) = 8 + m + k from by omega, show 6 + 2 + (m + k + 1) = 8 + m + k + 1 from by omega]
        exact this
  exact key (N - m) 0 (by omega)
noncomputable def f63 : gD := fun Lv σ => match Lv with
  | [some (.ref q0), some (.int t), none, none] => cond (Nat.beq q0 6) (some (some ((0 ≤ t ∧ t < 20) ∧ ∃ R, SV σ 6 R ∧ t.toNatClampNeg < nM R), none, cOff σ t.toNatClampNeg)) none
  | _ => none
theorem ok63 : gFok 63 f63 := by
  intro Lv σ q h hc K hK
  unfold f63 at h
  split at h
  · rename_i q0 t
    obtain ⟨hb, h⟩ := c_no h
    have hb0 := hb
    have e0 := b_eq hb0
    subst e0
    cases h
    exact s63 (hc _ rfl) hK
  · cases h
noncomputable def gpdb_l : List (Nat × gD) := (63, f63) :: gpda_l
noncomputable def gpdb : gP := gpl0 gpdb_l
theorem gpdb_ok : gPok gpdb := gpl0_cons ok63 (gpda_ok)
