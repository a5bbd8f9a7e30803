/-! THE CLASS: stations -/
set_option maxRecDepth 20000 in
theorem w63 {σ : gS} {K : gK} {t : Int32} (h : (0 ≤ t ∧ t < 20) ∧ gTv (6 + 2 + t.toNatClampNeg) ∧ (bLg σ 30) ∧ (gTv (6 + 2 + t.toNatClampNeg)) ∧ gE 63 37 [some (.ref 6), some (.int t), some (.ref (6 + 2 + t.toNatClampNeg)), some (.int t)] [] (gup (cCnt (cAdd σ (4 : Int32) t (σ (6 + 2 + t.toNatClampNeg) 1)) 6 (6 + 2 + t.toNatClampNeg) ((-1) : Int32)) 6 7 (((cCnt (cAdd σ (4 : Int32) t (σ (6 + 2 + t.toNatClampNeg) 1)) 6 (6 + 2 + t.toNatClampNeg) ((-1) : Int32)) 6 7) - 1)) K) : gE 63 0 [some (.ref 6), some (.int t), none, none] [] σ K :=
  gw_run (cy := 63) (cuts := [37]) (inl := []) (pf := gpda) gpda_ok 400 (by decide) h
set_option maxRecDepth 20000 in
theorem v63 {σ : gS} {K : gK} {t k : Int32} {w : Nat} (h : ((¬ k < (σ 6 7) → K none (gup σ 6 12 ((σ 6 12) + 1))) ∧ (k < (σ 6 7) → (0 ≤ k ∧ k < 20) ∧ (0 ≤ (k + 1) ∧ (k + 1) < 20) ∧ gTv (6 + 2 + k.toNatClampNeg) ∧ (gTv (6 + 2 + k.toNatClampNeg) ∧ gTv (6 + 2 + (k + 1).toNatClampNeg)) ∧ gE 63 37 [some (.ref 6), some (.int t), some (.ref w), some (.int (k + 1))] [] (cTv σ (6 + 2 + k.toNatClampNeg) (6 + 2 + (k + 1).toNatClampNeg)) K))) : gE 63 37 [some (.ref 6), some (.int t), some (.ref w), some (.int k)] [] σ K :=
  gw_run (cy := 63) (cuts := [37]) (inl := []) (pf := gpda) gpda_ok 400 (by decide) h
theorem cCnt_off {σ : gS} {p w q : Nat} {k : Int32} (h : ¬ q = p + 23) : cCnt σ p w k q = σ q := by
  funext j
  unfold cCnt
  split
  · exact gup_ne (by omega)
  · rfl
theorem s63 {σ : gS} {K : gK} {t : Int32} (hc : (0 ≤ t ∧ t < 20) ∧ ∃ R, SV σ 6 R ∧ t.toNatClampNeg < nM R) (hK : K none (cOff σ t.toNatClampNeg)) : gE 63 0 [some (.ref 6), some (.int t), none, none] [] σ K := by
  obtain ⟨ht, R, hR, hl⟩ := hc
  obtain ⟨b3, bn, e7⟩ := SV_3 hR
  obtain ⟨et, lt⟩ := t20 ht
  obtain ⟨m, hm⟩ : ∃ m, t.toNatClampNeg = m := ⟨_, rfl⟩
  rw [hm] at hl et lt hK
  subst et
  have tv := tv_6 m (by omega)
  have nt : (iN m).toNatClampNeg = m := hm
  refine w63 ⟨ht, by rw [nt]; exact tv, hR.2.2.1.1, by rw [nt]; exact tv, ?_⟩
  rw [nt]
  have e8 : 6 + 2 + m = 8 + m := by omega
  rw [e8]
  obtain ⟨N, hN⟩ : ∃ N, nM R = N + 1 := ⟨nM R - 1, by omega⟩
  have eR : R 3 = iN (N + 1) := by rw [← hN]; exact (nM_of b3).1
  have e7' : σ 6 7 = iN (N + 1) := by rw [e7]; exact eR
  have n7 : (σ 6 7).toNatClampNeg - 1 = N := by rw [e7', iN_nat (by omega)]; omega
  unfold cOff cOut at hK
  rw [n7] at hK
  have c7 : cCnt (cAdd σ 4 (iN m) (σ (8 + m) 1)) 6 (8 + m) (-1) 6 7 - 1 = iN N := by
    rw [cCnt_off (by omega), cAdd_far (by omega) (by omega), e7']
    exact iN_sub (d := 1) (by omega) (by omega)
  rw [c7]
  obtain ⟨τ, hτ⟩ : ∃ τ, gup (cCnt (cAdd σ 4 (iN m) (σ (8 + m) 1)) 6 (8 + m) (-1)) 6 7 (iN N) = τ := ⟨_, rfl⟩
  have τ7 : τ 6 7 = iN N := by rw [← hτ, gup_at]
  have τ12 : τ 6 12 = σ 6 12 := by rw [← hτ, gup_ne (by omega), cCnt_off (by omega), cAdd_far (by omega) (by omega)]
  rw [hτ] at hK ⊢
  have far : ∀ k i, cShN τ m k 6 i = τ 6 i := fun k i => by rw [cSh_e, if_neg (by omega)]
  have key : ∀ d k, m + k + d = N → gE 63 37 [some (.ref 6), some (.int (iN m)), some (.ref (8 + m)), some (.int (iN (m + k)))] [] (cShN τ m k) K := by
    intro d
    induction d with
    | zero =>
      intro k hk
      refine v63 ⟨fun _ => ?_, fun h => ?_⟩
      · rw [show N - m = k from by omega] at hK
        rw [far, τ12]
        exact hK
      · rw [far, τ7] at h
        exact absurd ((iN_lt (by omega) (by omega)).mp h) (by omega)
    | succ d ih =>
      intro k hk
      have nk : (iN (m + k)).toNatClampNeg = m + k := iN_nat (by omega)
      have nk1 : (iN (m + k + 1)).toNatClampNeg = m + k + 1 := iN_nat (by omega)
      refine v63 ⟨fun h => ?_, fun _ => ⟨b20 (by omega), ?_⟩⟩
      · exfalso
        apply h
        rw [far, τ7]
        exact (iN_lt (by omega) (by omega)).mpr (by omega)
      · rw [iN_one, nk, nk1]
        refine ⟨b20 (by omega), tv_6 _ (by omega), ⟨tv_6 _ (by omega), tv_6 _ (by omega)⟩, ?_⟩
        have := ih (k + 1) (by omega)
        rw [show m + (k + 1) = m + k + 1 from by omega] at this
        rw [show 6 + 2 + (m + k) = 8 + m + k from by omega, show 6 + 2 + (m + k + 1) = 8 + m + k + 1 from by omega]
        exact this
  exact key (N - m) 0 (by omega)
noncomputable def f63 : gD := fun Lv σ => match Lv with
  | [some (.ref q0), some (.int t), none, none] => cond (Nat.beq q0 6) (some (some ((0 ≤ t ∧ t < 20) ∧ ∃ R, SV σ 6 R ∧ t.toNatClampNeg < nM R), none, cOff σ t.toNatClampNeg)) none
  | _ => none
theorem ok63 : gFok 63 f63 := by
  intro Lv σ q h hc K hK
  unfold f63 at h
  split at h
  · rename_i q0 t
    obtain ⟨hb, h⟩ := c_no h
    have hb0 := hb
    have e0 := b_eq hb0
    subst e0
    cases h
    exact s63 (hc _ rfl) hK
  · cases h
noncomputable def gpdb_l : List (Nat × gD) := (63, f63) :: gpda_l
noncomputable def gpdb : gP := gpl0 gpdb_l
theorem gpdb_ok : gPok gpdb := gpl0_cons ok63 (gpda_ok)
