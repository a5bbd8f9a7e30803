section
-- text 104
/-! QUERIES: families, tables, letters, entries -/
noncomputable def gfS (m : Int32 → Int32) (j : Nat) (s : Int32 × Int32) : Int32 × Int32 := if s.2 < m (iN (j + 1)) then (iN (j + 1), m (iN (j + 1))) else s
noncomputable def gfA (m : Int32 → Int32) : Int32 := (nfold (gfS m) 9 (0, 0)).1
theorem gfS_t {m : Int32 → Int32} {j : Nat} {s : Int32 × Int32} (h : s.2 < m (iN (j + 1))) : gfS m j s = (iN (j + 1), m (iN (j + 1))) := if_pos h
theorem gfS_f {m : Int32 → Int32} {j : Nat} {s : Int32 × Int32} (h : ¬ s.2 < m (iN (j + 1))) : gfS m j s = s := if_neg h
noncomputable def cFm (σ : gS) (f : Int32) : Int32 := sm (fun a => cMa σ 6 (iN a) f) 5
noncomputable def cFt (σ : gS) (f : Int32) : Int32 := iN (cnt (fun a => decide (0 < cMa σ 6 (iN a) f)) 5)
noncomputable def rFt (R : gW) (f : Int32) : Int32 := iN (cnt (fun a => decide (0 < iN (mem R (iN a) f))) ((R 0 + 1) / 2).toNatClampNeg)
noncomputable def fFs (m : Int32 → Int32) : Int32 := iN (cnt (fun j => decide (0 < m (iN (j + 1)))) 9)
theorem rw_n {x : Int32} (h : 2 ≤ x ∧ x ≤ 10) : ∃ m, 2 ≤ m ∧ m ≤ 10 ∧ x = iN m ∧ (x + 1) / 2 = iN ((m + 1) / 2) := by
  obtain ⟨e, l⟩ := iN_of (x := x) (by have := h.1; grind)
  obtain ⟨m, hm⟩ : ∃ m, x.toNatClampNeg = m := ⟨_, rfl⟩
  rw [hm] at e l
  subst e
  refine ⟨m, (iN_le (k := 2) (by decide) l).mp h.1, (iN_le (m := 10) l (by decide)).mp h.2, rfl, ?_⟩
  rw [iN_one, show (2 : Int32) = iN 2 from rfl, iN_div (by have := (iN_le (m := 10) l (by decide)).mp h.2; omega) (by decide)]
theorem e9 {k : Nat} (hk : k < 9) : ¬ (9 : Int32) < iN (k + 1) := fun z => absurd ((iN_lt (k := 9) (by decide) (by omega)).mp z) (by omega)
set_option maxRecDepth 20000 in
theorem w77 {σ : gS} {K : gK} {b : Int32} (h : gE 77 7 [some (.ref 6), some (.int b), some (.int 0), some (.int 0), some (.int 1), none] [] σ K) : gE 77 0 [some (.ref 6), some (.int b), none, none, none, none] [] σ K :=
  gw_run (cy := 77) (cuts := [7]) (inl := []) (pf := gpef) gpef_ok 400 (by decide) h
set_option maxRecDepth 20000 in
theorem c77_7 {σ : gS} {K : gK} {l1 l2 l3 l4 : Int32} {l5 : Option Value} (h : ((9 < l4 → K (some (.int l2)) σ) ∧ (¬ 9 < l4 → ((¬ l3 < (cMa σ 6 l1 l4) → gE 77 7 [some (.ref 6), some (.int l1), some (.int l2), some (.int l3), some (.int (l4 + 1)), some (.int (cMa σ 6 l1 l4))] [] σ K) ∧ (l3 < (cMa σ 6 l1 l4) → gE 77 7 [some (.ref 6), some (.int l1), some (.int l4), some (.int (cMa σ 6 l1 l4)), some (.int (l4 + 1)), some (.int (cMa σ 6 l1 l4))] [] σ K))))) : gE 77 7 [some (.ref 6), some (.int l1), some (.int l2), some (.int l3), some (.int l4), l5] [] σ K :=
  gw_run (cy := 77) (cuts := [7]) (inl := []) (pf := gpef) gpef_ok 400 (by decide) h
theorem s77 {σ : gS} {K : gK} {b : Int32} (hK : K (some (.int (gfA (cMa σ 6 b)))) σ) : gE 77 0 [some (.ref 6), some (.int b), none, none, none, none] [] σ K := by
  refine w77 ?_
  refine g_forJ 9 (fun k u => [some (.ref 6), some (.int b), some (.int (nfold (gfS (cMa σ 6 b)) k (0, 0)).1), some (.int (nfold (gfS (cMa σ 6 b)) k (0, 0)).2), some (.int (iN (k + 1))), u]) (fun _ => σ) (fun _ => True) (fun _ u => c77_7 ⟨fun _ => hK, fun z => absurd (by decide) z⟩) (fun k hk _ ih u => ?_) 0 (Nat.zero_le _) trivial none
  have ih := ih trivial
  refine c77_7 ⟨fun z => absurd z (e9 hk), fun _ => ⟨fun q => ?_, fun q => ?_⟩⟩
  · have e : nfold (gfS (cMa σ 6 b)) (k + 1) (0, 0) = nfold (gfS (cMa σ 6 b)) k (0, 0) := gfS_f q
    rw [e] at ih
    rw [iN_one]
    exact ih _
  · have e : nfold (gfS (cMa σ 6 b)) (k + 1) (0, 0) = (iN (k + 1), cMa σ 6 b (iN (k + 1))) := gfS_t q
    rw [e] at ih
    have ih := ih (some (.int (cMa σ 6 b (iN (k + 1)))))
    rw [← iN_one (k + 1)] at ih
    exact ih
noncomputable def f77 : gD := fun Lv σ => match Lv with
  | [some (.ref q0), some (.int b), none, none, none, none] => cond (Nat.beq q0 6) (some (none, some (.int (gfA (cMa σ 6 b))), σ)) none
  | _ => none
theorem ok77 : gFok 77 f77 := by
  intro Lv σ q h hc K hK
  unfold f77 at h
  split at h
  · rename_i q0 b
    obtain ⟨hb, h⟩ := c_no h
    have hb0 := hb
    have e0 := b_eq hb0
    subst e0
    cases h
    exact s77 hK
  · cases h
set_option maxRecDepth 20000 in
theorem w78 {σ : gS} {K : gK} {f : Int32} (h : gE 78 4 [some (.ref 6), some (.int f), some (.int 0), some (.int 0)] [] σ K) : gE 78 0 [some (.ref 6), some (.int f), none, none] [] σ K :=
  gw_run (cy := 78) (cuts := [4]) (inl := []) (pf := gpef) gpef_ok 400 (by decide) h
set_option maxRecDepth 20000 in
theorem c78_4 {σ : gS} {K : gK} {l1 l2 l3 : Int32} (h : ((¬ l3 < 5 → K (some (.int l2)) σ) ∧ (l3 < 5 → gE 78 4 [some (.ref 6), some (.int l1), some (.int (l2 + (cMa σ 6 l3 l1))), some (.int (l3 + 1))] [] σ K))) : gE 78 4 [some (.ref 6), some (.int l1), some (.int l2), some (.int l3)] [] σ K :=
  gw_run (cy := 78) (cuts := [4]) (inl := []) (pf := gpef) gpef_ok 400 (by decide) h
theorem s78 {σ : gS} {K : gK} {f : Int32} (hK : K (some (.int (cFm σ f))) σ) : gE 78 0 [some (.ref 6), some (.int f), none, none] [] σ K := by
  refine w78 ?_
  refine g_forI 5 (fun k => [some (.ref 6), some (.int f), some (.int (sm (fun a => cMa σ 6 (iN a) f) k)), some (.int (iN k))]) (fun _ => σ) (fun _ => True) (fun _ => c78_4 ⟨fun _ => hK, fun z => absurd z (by decide)⟩) (fun k hk _ ih => ?_) 0 (Nat.zero_le _) trivial
  have ih := ih trivial
  refine c78_4 ⟨fun z => absurd ((iN_lt (m := 5) (by omega) (by decide)).mpr hk) z, fun _ => ?_⟩
  rw [iN_one]
  exact ih
noncomputable def f78 : gD := fun Lv σ => match Lv with
  | [some (.ref q0), some (.int f), none, none] => cond (Nat.beq q0 6) (some (none, some (.int (cFm σ f)), σ)) none
  | _ => none
theorem ok78 : gFok 78 f78 := by
  intro Lv σ q h hc K hK
  unfold f78 at h
  split at h
  · rename_i q0 f
    obtain ⟨hb, h⟩ := c_no h
    have hb0 := hb
    have e0 := b_eq hb0
    subst e0
    cases h
    exact s78 hK
  · cases h
set_option maxRecDepth 20000 in
theorem w79 {σ : gS} {K : gK} {f : Int32} (h : gE 79 4 [some (.ref 6), some (.int f), some (.int 0), some (.int 0)] [] σ K) : gE 79 0 [some (.ref 6), some (.int f), none, none] [] σ K :=
  gw_run (cy := 79) (cuts := [4]) (inl := []) (pf := gpef) gpef_ok 400 (by decide) h
set_option maxRecDepth 20000 in
theorem c79_4 {σ : gS} {K : gK} {l1 l2 l3 : Int32} (h : ((¬ l3 < 5 → K (some (.int l2)) σ) ∧ (l3 < 5 → ((¬ 0 < (cMa σ 6 l3 l1) → gE 79 4 [some (.ref 6), some (.int l1), some (.int l2), some (.int (l3 + 1))] [] σ K) ∧ (0 < (cMa σ 6 l3 l1) → gE 79 4 [some (.ref 6), some (.int l1), some (.int (l2 + 1)), some (.int (l3 + 1))] [] σ K))))) : gE 79 4 [some (.ref 6), some (.int l1), some (.int l2), some (.int l3)] [] σ K :=
  gw_run (cy := 79) (cuts := [4]) (inl := []) (pf := gpef) gpef_ok 400 (by decide) h
theorem s79 {σ : gS} {K : gK} {f : Int32} (hK : K (some (.int (cFt σ f))) σ) : gE 79 0 [some (.ref 6), some (.int f), none, none] [] σ K := by
  refine w79 ?_
  refine g_forI 5 (fun k => [some (.ref 6), some (.int f), some (.int (iN (cnt (fun a => decide (0 < cMa σ 6 (iN a) f)) k))), some (.int (iN k))]) (fun _ => σ) (fun _ => True) (fun _ => c79_4 ⟨fun _ => hK, fun z => absurd z (by decide)⟩) (fun k hk _ ih => ?_) 0 (Nat.zero_le _) trivial
  have ih := ih trivial
  refine c79_4 ⟨fun z => absurd ((iN_lt (m := 5) (by omega) (by decide)).mpr hk) z, fun _ => ⟨fun q => ?_, fun q => ?_⟩⟩
  · rw [cnt_f (fun z => q (of_decide_eq_true z))] at ih
    rw [iN_one]
    exact ih
  · rw [cnt_t (decide_eq_true q)] at ih
    rw [iN_one, iN_one]
    exact ih
noncomputable def f79 : gD := fun Lv σ => match Lv with
  | [some (.ref q0), some (.int f), none, none] => cond (Nat.beq q0 6) (some (none, some (.int (cFt σ f)), σ)) none
  | _ => none
theorem ok79 : gFok 79 f79 := by
  intro Lv σ q h hc K hK
  unfold f79 at h
  split at h
  · rename_i q0 f
    obtain ⟨hb, h⟩ := c_no h
    have hb0 := hb
    have e0 := b_eq hb0
    subst e0
    cases h
    exact s79 hK
  · cases h
set_option maxRecDepth 20000 in
theorem w226 {σ : gS} {K : gK} (h : gE 226 4 [some (.ref 323), some (.int 0), some (.int 1)] [] σ K) : gE 226 0 [some (.ref 323), none, none] [] σ K :=
  gw_run (cy := 226) (cuts := [4]) (inl := []) (pf := gpef) gpef_ok 400 (by decide) h
set_option maxRecDepth 20000 in
theorem c226_4 {σ : gS} {K : gK} {l1 l2 : Int32} (h : ((9 < l2 → K (some (.int l1)) σ) ∧ (¬ 9 < l2 → (RS σ) ∧ ((¬ 0 < (fMF (σ 324) l2) → gE 226 4 [some (.ref 323), some (.int l1), some (.int (l2 + 1))] [] σ K) ∧ (0 < (fMF (σ 324) l2) → gE 226 4 [some (.ref 323), some (.int (l1 + 1)), some (.int (l2 + 1))] [] σ K))))) : gE 226 4 [some (.ref 323), some (.int l1), some (.int l2)] [] σ K :=
  gw_run (cy := 226) (cuts := [4]) (inl := []) (pf := gpef) gpef_ok 400 (by decide) h
theorem s226 {σ : gS} {K : gK} (hc : RS σ) (hK : K (some (.int (fFs (fMF (σ 324))))) σ) : gE 226 0 [some (.ref 323), none, none] [] σ K := by
  refine w226 ?_
  refine g_forI 9 (fun k => [some (.ref 323), some (.int (iN (cnt (fun j => decide (0 < fMF (σ 324) (iN (j + 1)))) k))), some (.int (iN (k + 1)))]) (fun _ => σ) (fun _ => True) (fun _ => c226_4 ⟨fun _ => hK, fun z => absurd (by decide) z⟩) (fun k hk _ ih => ?_) 0 (Nat.zero_le _) trivial
  have ih := ih trivial
  refine c226_4 ⟨fun z => absurd z (e9 hk), fun _ => ⟨hc, fun q => ?_, fun q => ?_⟩⟩
  · rw [cnt_f (fun z => q (of_decide_eq_true z))] at ih
    rw [iN_one]
    exact ih
  · rw [cnt_t (decide_eq_true q)] at ih
    rw [iN_one, iN_one]
    exact ih
noncomputable def f226 : gD := fun Lv σ => match Lv with
  | [some (.ref q0), none, none] => cond (Nat.beq q0 323) (some (some (RS σ), some (.int (fFs (fMF (σ 324)))), σ)) none
  | _ => none
theorem ok226 : gFok 226 f226 := by
  intro Lv σ q h hc K hK
  unfold f226 at h
  split at h
  · rename_i q0
    obtain ⟨hb, h⟩ := c_no h
    have hb0 := hb
    have e0 := b_eq hb0
    subst e0
    cases h
    exact s226 (hc _ rfl) hK
  · cases h
set_option maxRecDepth 20000 in
theorem w234 {σ : gS} {K : gK} {b : Int32} (h : gE 234 7 [some (.ref 323), some (.int b), some (.int 0), some (.int 0), some (.int 1), none] [] σ K) : gE 234 0 [some (.ref 323), some (.int b), none, none, none, none] [] σ K :=
  gw_run (cy := 234) (cuts := [7]) (inl := []) (pf := gpef) gpef_ok 400 (by decide) h
set_option maxRecDepth 20000 in
theorem c234_7 {σ : gS} {K : gK} {l1 l2 l3 l4 : Int32} {l5 : Option Value} (h : ((9 < l4 → K (some (.int l2)) σ) ∧ (¬ 9 < l4 → (RS σ) ∧ ((l3 < (iN (mem (σ 324) l1 l4)) → gE 234 7 [some (.ref 323), some (.int l1), some (.int l4), some (.int (iN (mem (σ 324) l1 l4))), some (.int (l4 + 1)), some (.int (iN (mem (σ 324) l1 l4)))] [] σ K) ∧ (¬ l3 < (iN (mem (σ 324) l1 l4)) → gE 234 7 [some (.ref 323), some (.int l1), some (.int l2), some (.int l3), some (.int (l4 + 1)), some (.int (iN (mem (σ 324) l1 l4)))] [] σ K))))) : gE 234 7 [some (.ref 323), some (.int l1), some (.int l2), some (.int l3), some (.int l4), l5] [] σ K :=
  gw_run (cy := 234) (cuts := [7]) (inl := []) (pf := gpef) gpef_ok 400 (by decide) h
theorem s234 {σ : gS} {K : gK} {b : Int32} (hc : RS σ) (hK : K (some (.int (gfA (fun f => iN (mem (σ 324) b f))))) σ) : gE 234 0 [some (.ref 323), some (.int b), none, none, none, none] [] σ K := by
  refine w234 ?_
  refine g_forJ 9 (fun k u => [some (.ref 323), some (.int b), some (.int (nfold (gfS (fun f => iN (mem (σ 324) b f))) k (0, 0)).1), some (.int (nfold (gfS (fun f => iN (mem (σ 324) b f))) k (0, 0)).2), some (.int (iN (k + 1))), u]) (fun _ => σ) (fun _ => True) (fun _ u => c234_7 ⟨fun _ => hK, fun z => absurd (by decide) z⟩) (fun k hk _ ih u => ?_) 0 (Nat.zero_le _) trivial none
  have ih := ih trivial
  refine c234_7 ⟨fun z => absurd z (e9 hk), fun _ => ⟨hc, fun q => ?_, fun q => ?_⟩⟩
  · have e : nfold (gfS (fun f => iN (mem (σ 324) b f))) (k + 1) (0, 0) = (iN (k + 1), iN (mem (σ 324) b (iN (k + 1)))) := gfS_t (m := fun f => iN (mem (σ 324) b f)) q
    rw [e] at ih
    have ih := ih (some (.int (iN (mem (σ 324) b (iN (k + 1))))))
    rw [← iN_one (k + 1)] at ih
    exact ih
  · have e : nfold (gfS (fun f => iN (mem (σ 324) b f))) (k + 1) (0, 0) = nfold (gfS (fun f => iN (mem (σ 324) b f))) k (0, 0) := gfS_f (m := fun f => iN (mem (σ 324) b f)) q
    rw [e] at ih
    rw [iN_one]
    exact ih _
noncomputable def f234 : gD := fun Lv σ => match Lv with
  | [some (.ref q0), some (.int b), none, none, none, none] => cond (Nat.beq q0 323) (some (some (RS σ), some (.int (gfA (fun f => iN (mem (σ 324) b f)))), σ)) none
  | _ => none
theorem ok234 : gFok 234 f234 := by
  intro Lv σ q h hc K hK
  unfold f234 at h
  split at h
  · rename_i q0 b
    obtain ⟨hb, h⟩ := c_no h
    have hb0 := hb
    have e0 := b_eq hb0
    subst e0
    cases h
    exact s234 (hc _ rfl) hK
  · cases h
set_option maxRecDepth 20000 in
theorem w236 {σ : gS} {K : gK} {f : Int32} (h : gE 236 4 [some (.ref 323), some (.int f), some (.int 0), some (.int 0)] [] σ K) : gE 236 0 [some (.ref 323), some (.int f), none, none] [] σ K :=
  gw_run (cy := 236) (cuts := [4]) (inl := []) (pf := gpef) gpef_ok 400 (by decide) h
set_option maxRecDepth 20000 in
theorem c236_4 {σ : gS} {K : gK} {l1 l2 l3 : Int32} (h : ((¬ l3 < ((σ 324 0 + 1) / 2) → K (some (.int l2)) σ) ∧ (l3 < ((σ 324 0 + 1) / 2) → (RS σ) ∧ ((¬ 0 < (iN (mem (σ 324) l3 l1)) → gE 236 4 [some (.ref 323), some (.int l1), some (.int l2), some (.int (l3 + 1))] [] σ K) ∧ (0 < (iN (mem (σ 324) l3 l1)) → gE 236 4 [some (.ref 323), some (.int l1), some (.int (l2 + 1)), some (.int (l3 + 1))] [] σ K))))) : gE 236 4 [some (.ref 323), some (.int l1), some (.int l2), some (.int l3)] [] σ K :=
  gw_run (cy := 236) (cuts := [4]) (inl := []) (pf := gpef) gpef_ok 400 (by decide) h
theorem s236 {σ : gS} {K : gK} {f : Int32} (hc : RS σ ∧ (2 ≤ σ 324 0 ∧ σ 324 0 ≤ 10)) (hK : K (some (.int (rFt (σ 324) f))) σ) : gE 236 0 [some (.ref 323), some (.int f), none, none] [] σ K := by
  obtain ⟨hc, hr⟩ := hc
  obtain ⟨m, m1, m2, em, et⟩ := rw_n hr
  obtain ⟨T, hT⟩ : ∃ T, (m + 1) / 2 = T := ⟨_, rfl⟩
  rw [hT] at et
  have lT : T < 10 := by omega
  unfold rFt at hK
  rw [et, iN_nat (by omega)] at hK
  refine w236 ?_
  refine g_forI T (fun k => [some (.ref 323), some (.int f), some (.int (iN (cnt (fun a => decide (0 < iN (mem (σ 324) (iN a) f))) k))), some (.int (iN k))]) (fun _ => σ) (fun _ => True) (fun _ => c236_4 (by rw [et]; exact ⟨fun _ => hK, fun z => absurd ((iN_lt (by omega) (by omega)).mp z) (Nat.lt_irrefl _)⟩)) (fun k hk _ ih => ?_) 0 (Nat.zero_le _) trivial
  have ih := ih trivial
  refine c236_4 ?_
  rw [et]
  refine ⟨fun z => absurd ((iN_lt (by omega) (by omega)).mpr hk) z, fun _ => ⟨hc, fun q => ?_, fun q => ?_⟩⟩
  · rw [cnt_f (fun z => q (of_decide_eq_true z))] at ih
    rw [iN_one]
    exact ih
  · rw [cnt_t (decide_eq_true q)] at ih
    rw [iN_one, iN_one]
    exact ih
noncomputable def f236 : gD := fun Lv σ => match Lv with
  | [some (.ref q0), some (.int f), none, none] => cond (Nat.beq q0 323) (some (some (RS σ ∧ (2 ≤ σ 324 0 ∧ σ 324 0 ≤ 10)), some (.int (rFt (σ 324) f)), σ)) none
  | _ => none
theorem ok236 : gFok 236 f236 := by
  intro Lv σ q h hc K hK
  unfold f236 at h
  split at h
  · rename_i q0 f
    obtain ⟨hb, h⟩ := c_no h
    have hb0 := hb
    have e0 := b_eq hb0
    subst e0
    cases h
    exact s236 (hc _ rfl) hK
  · cases h
set_option maxRecDepth 20000 in
theorem w106 {σ : gS} {K : gK} {i : Int32} {p : Nat} (h : ((¬ i < 5 → K (some (.int 0)) σ) ∧ (i < 5 → gTv p ∧ K (some (.int (((σ p 0) >>> ((5 * i) &&& 31)) &&& 31))) σ))) : gE 106 0 [some (.ref p), some (.int i)] [] σ K :=
  gw_run (cy := 106) (cuts := []) (inl := []) (pf := gpef) gpef_ok 400 (by decide) h
theorem s106 {σ : gS} {K : gK} {p : Nat} {i : Int32} (hc : gTv p) (hK : K (some (.int (if i < 5 then (σ p 0 >>> ((5 * i) &&& 31)) &&& 31 else 0))) σ) : gE 106 0 [some (.ref p), some (.int i)] [] σ K := by
  refine w106 ⟨fun q => ?_, fun q => ⟨hc, ?_⟩⟩
  · rw [if_neg q] at hK; exact hK
  · rw [if_pos q] at hK; exact hK
noncomputable def f106 : gD := fun Lv σ => match Lv with
  | [some (.ref p), some (.int i)] => some (some (gTv p), some (.int (if i < 5 then (σ p 0 >>> ((5 * i) &&& 31)) &&& 31 else 0)), σ)
  | _ => none
theorem ok106 : gFok 106 f106 := by
  intro Lv σ q h hc K hK
  unfold f106 at h
  split at h
  · rename_i p i
    cases h
    exact s106 (hc _ rfl) hK
  · cases h
set_option maxRecDepth 20000 in
theorem w6 {σ : gS} {K : gK} {i c : Int32} (h : ((i < (σ 30 2) → (0 ≤ σ 30 1 + i ∧ σ 30 1 + i < 100) ∧ (((((σ 30 1 + i) - (σ 30 1 + i) / 40 * 40) * 3 + c) < 0 → K (some (.int (-2))) σ) ∧ (¬ (((σ 30 1 + i) - (σ 30 1 + i) / 40 * 40) * 3 + c) < 0 → ((¬ (((σ 30 1 + i) - (σ 30 1 + i) / 40 * 40) * 3 + c) < 120 → K (some (.int (-2))) σ) ∧ ((((σ 30 1 + i) - (σ 30 1 + i) / 40 * 40) * 3 + c) < 120 → (0 ≤ (((σ 30 1 + i) - (σ 30 1 + i) / 40 * 40) * 3 + c) ∧ (((σ 30 1 + i) - (σ 30 1 + i) / 40 * 40) * 3 + c) < 120) ∧ K (some (.int (σ 31 (((σ 30 1 + i) - (σ 30 1 + i) / 40 * 40) * 3 + c).toNatClampNeg))) σ))))) ∧ (¬ i < (σ 30 2) → K (some (.int (-2))) σ))) : gE 6 0 [some (.ref 30), some (.int i), some (.int c), none] [] σ K :=
  gw_run (cy := 6) (cuts := []) (inl := []) (pf := gpef) gpef_ok 400 (by decide) h
theorem s6 {σ : gS} {K : gK} {i c : Int32} (hc : bLg σ 30 ∧ 0 ≤ i ∧ (0 ≤ c ∧ c ≤ 2)) (hK : K (some (.int (if i < σ 30 2 then σ 31 (3 * (((σ 30 1).toNatClampNeg + i.toNatClampNeg) % 40) + c.toNatClampNeg) else -2))) σ) : gE 6 0 [some (.ref 30), some (.int i), some (.int c), none] [] σ K := by
  obtain ⟨⟨h1, h2⟩, hi, hw⟩ := hc
  obtain ⟨eO, lO⟩ := iN_of h1.1
  obtain ⟨eI, lI⟩ := iN_of hi
  obtain ⟨eC, lC⟩ := iN_of hw.1
  obtain ⟨O, hO⟩ : ∃ O, (σ 30 1).toNatClampNeg = O := ⟨_, rfl⟩
  obtain ⟨I, hI⟩ : ∃ I, i.toNatClampNeg = I := ⟨_, rfl⟩
  obtain ⟨C, hC⟩ : ∃ C, c.toNatClampNeg = C := ⟨_, rfl⟩
  rw [hO] at eO lO hK
  rw [hI] at eI lI hK
  rw [hC] at eC lC hK
  have O40 : O < 40 := by
    have := h1.2
    rw [eO] at this
    exact (iN_lt (m := 40) lO (by decide)).mp this
  have C3 : C < 3 := by
    have := hw.2
    rw [eC] at this
    have := (iN_le (m := 2) lC (by decide)).mp this
    omega
  refine w6 ⟨fun q => ?_, fun q => ?_⟩
  · rw [if_pos q] at hK
    have I40 : I < 40 := by
      have q2 : i < 40 := by
        have := h2.2
        grind
      rw [eI] at q2
      exact (iN_lt (m := 40) lI (by decide)).mp q2
    have key : (σ 30 1 + i - (σ 30 1 + i) / 40 * 40) * 3 + c = iN (3 * ((O + I) % 40) + C) := by
      rw [eO, eI, eC, iN_add, show (40 : Int32) = iN 40 from rfl, iN_mod (by omega) (by decide), show (3 : Int32) = iN 3 from rfl, iN_mul, iN_add, Nat.mul_comm]
    have m40 : (O + I) % 40 < 40 := Nat.mod_lt _ (by decide)
    have b : 0 ≤ iN (3 * ((O + I) % 40) + C) ∧ iN (3 * ((O + I) % 40) + C) < 120 := ⟨(iN_le (k := 0) (by decide) (by omega)).mpr (by omega), (iN_lt (m := 120) (by omega) (by decide)).mpr (by omega)⟩
    rw [key, iN_nat (by omega)]
    refine ⟨?_, fun z => absurd z (Int32.not_lt.mpr b.1), fun _ => ⟨fun z => absurd b.2 z, fun _ => ⟨b, hK⟩⟩⟩
    rw [eO, eI, iN_add]
    exact ⟨(iN_le (k := 0) (by decide) (by omega)).mpr (by omega), (iN_lt (m := 100) (by omega) (by decide)).mpr (by omega)⟩
  · rw [if_neg q] at hK; exact hK
noncomputable def f6 : gD := fun Lv σ => match Lv with
  | [some (.ref q0), some (.int i), some (.int c), none] => cond (Nat.beq q0 30) (some (some (bLg σ 30 ∧ 0 ≤ i ∧ (0 ≤ c ∧ c ≤ 2)), some (.int (if i < σ 30 2 then σ 31 (3 * (((σ 30 1).toNatClampNeg + i.toNatClampNeg) % 40) + c.toNatClampNeg) else -2)), σ)) none
  | _ => none
theorem ok6 : gFok 6 f6 := by
  intro Lv σ q h hc K hK
  unfold f6 at h
  split at h
  · rename_i q0 i c
    obtain ⟨hb, h⟩ := c_no h
    have hb0 := hb
    have e0 := b_eq hb0
    subst e0
    cases h
    exact s6 (hc _ rfl) hK
  · cases h
noncomputable def gpeg_l : List (Nat × gD) := (77, f77) :: (78, f78) :: (79, f79) :: (226, f226) :: (234, f234) :: (236, f236) :: (106, f106) :: (6, f6) :: gpef_l
noncomputable def gpeg : gP := gpl0 gpeg_l
theorem gpeg_ok : gPok gpeg := gpl0_cons ok77 (gpl0_cons ok78 (gpl0_cons ok79 (gpl0_cons ok226 (gpl0_cons ok234 (gpl0_cons ok236 (gpl0_cons ok106 (gpl0_cons ok6 (gpef_ok))))))))
set_option maxRecDepth 20000 in
theorem w81 {σ : gS} {K : gK} (h : gE 81 4 [some (.ref 6), some (.int 0), some (.int 1)] [] σ K) : gE 81 0 [some (.ref 6), none, none] [] σ K :=
  gw_run (cy := 81) (cuts := [4]) (inl := []) (pf := gpeg) gpeg_ok 400 (by decide) h
set_option maxRecDepth 20000 in
theorem c81_4 {σ : gS} {K : gK} {l1 l2 : Int32} (h : ((9 < l2 → K (some (.int l1)) σ) ∧ (¬ 9 < l2 → ((¬ 0 < (cFm σ l2) → gE 81 4 [some (.ref 6), some (.int l1), some (.int (l2 + 1))] [] σ K) ∧ (0 < (cFm σ l2) → gE 81 4 [some (.ref 6), some (.int (l1 + 1)), some (.int (l2 + 1))] [] σ K))))) : gE 81 4 [some (.ref 6), some (.int l1), some (.int l2)] [] σ K :=
  gw_run (cy := 81) (cuts := [4]) (inl := []) (pf := gpeg) gpeg_ok 400 (by decide) h
theorem s81 {σ : gS} {K : gK} (hK : K (some (.int (fFs (cFm σ)))) σ) : gE 81 0 [some (.ref 6), none, none] [] σ K := by
  refine w81 ?_
  refine g_forI 9 (fun k => [some (.ref 6), some (.int (iN (cnt (fun j => decide (0 < cFm σ (iN (j + 1)))) k))), some (.int (iN (k + 1)))]) (fun _ => σ) (fun _ => True) (fun _ => c81_4 ⟨fun _ => hK, fun z => absurd (by decide) z⟩) (fun k hk _ ih => ?_) 0 (Nat.zero_le _) trivial
  have ih := ih trivial
  refine c81_4 ⟨fun z => absurd z (e9 hk), fun _ => ⟨fun q => ?_, fun q => ?_⟩⟩
  · rw [cnt_f (fun z => q (of_decide_eq_true z))] at ih
    rw [iN_one]
    exact ih
  · rw [cnt_t (decide_eq_true q)] at ih
    rw [iN_one, iN_one]
    exact ih
noncomputable def f81 : gD := fun Lv σ => match Lv with
  | [some (.ref q0), none, none] => cond (Nat.beq q0 6) (some (none, some (.int (fFs (cFm σ))), σ)) none
  | _ => none
theorem ok81 : gFok 81 f81 := by
  intro Lv σ q h hc K hK
  unfold f81 at h
  split at h
  · rename_i q0
    obtain ⟨hb, h⟩ := c_no h
    have hb0 := hb
    have e0 := b_eq hb0
    subst e0
    cases h
    exact s81 hK
  · cases h
noncomputable def gpeh_l : List (Nat × gD) := (81, f81) :: gpeg_l
noncomputable def gpeh : gP := gpl0 gpeh_l
theorem gpeh_ok : gPok gpeh := gpl0_cons ok81 (gpeg_ok)
end
section
-- text 105
/-! QUERIES: value, of, table, family, letter, log, ranked -/
noncomputable def aVl (R : gW) (m : Int32 → Int32) (lg un w : Int32) : Int32 := if w = 0 then R 0 else if w = 1 then R 1 else if w = 2 then R 2 else if w = 3 then R 3 else if w = 4 then 4 * R 0 - R 3 else if w = 5 then fJa R + 10000 else if w = 6 then fGr R else if w = 7 then fSw R else if w = 8 then R 4 else if w = 9 then R 5 else if w = 10 then R 6 else if w = 11 then R 7 else if w = 12 then R 8 else if w = 13 then (R 0 + 1) / 2 else if w = 14 then fFs m else if w = 15 then lg else if w = 16 then un else -1
noncomputable def aOf0 (R : gW) (rel : Int32) (t : Nat) (w : Int32) : Int32 := if w = 0 then fld R t 0 else if w = 1 then fld R t 1 else if w = 2 then fld R t 2 else if w = 3 then fld R t 3 + 9 else if w = 4 then fld R t 4 + 9 else if w = 5 then fld R t 5 else if w = 6 then fld R t 6 else if w = 7 then fld R t 7 else if w = 8 then fld R t 8 else if w = 9 then fJo R t + 100 else if w = 10 then rel else if w = 11 then fPl R t else -1
noncomputable def aOf (R : gW) (rel : Int32) (t w : Int32) : Int32 := if isT R t then aOf0 R rel t.toNatClampNeg w else -1
noncomputable def aTb (R : gW) (m : Int32 → Int32) (b w : Int32) : Int32 := if 0 ≤ b ∧ b ≤ (R 0 + 1) / 2 - 1 then (if w = 0 then fAc R b else if w = 1 then fAg R b else if w = 2 then fAj R b + 1000 else if w = 3 then gfA m else -1) else -1
noncomputable def aFa (R : gW) (mf ft : Int32) (f w : Int32) : Int32 := if 1 ≤ f ∧ f ≤ 9 then (if w = 0 then mf else if w = 1 then ft else if w = 2 then fJF R f + 1000 else -1) else -1
set_option maxRecDepth 20000 in
theorem w123 {σ : gS} {K : gK} {w : Int32} (h : ((0 : Int) + 17 = 16 + 1 ∧ ((w = 0 → K (some (.int (σ 6 4))) σ) ∧ (¬ w = 0 → ((w = 1 → K (some (.int (σ 6 5))) σ) ∧ (¬ w = 1 → ((w = 2 → K (some (.int (σ 6 6))) σ) ∧ (¬ w = 2 → ((w = 3 → K (some (.int (σ 6 7))) σ) ∧ (¬ w = 3 → ((w = 4 → K (some (.int ((σ 6 4 * 4) - (σ 6 7)))) σ) ∧ (¬ w = 4 → ((w = 5 → (TC σ 6) ∧ K (some (.int ((fJa (cR σ 6)) + 10000))) σ) ∧ (¬ w = 5 → ((w = 6 → (TC σ 6) ∧ K (some (.int (fGr (cR σ 6)))) σ) ∧ (¬ w = 6 → ((w = 7 → (SC σ) ∧ K (some (.int (fSw (cR σ 6)))) σ) ∧ (¬ w = 7 → ((w = 8 → K (some (.int (σ 6 8))) σ) ∧ (¬ w = 8 → ((w = 9 → K (some (.int (σ 6 9))) σ) ∧ (¬ w = 9 → ((w = 10 → K (some (.int (σ 6 10))) σ) ∧ (¬ w = 10 → ((w = 11 → K (some (.int (σ 6 11))) σ) ∧ (¬ w = 11 → ((w = 12 → K (some (.int (σ 6 12))) σ) ∧ (¬ w = 12 → ((w = 13 → K (some (.int ((σ 6 4 + 1) / 2))) σ) ∧ (¬ w = 13 → ((w = 14 → K (some (.int (fFs (cFm σ)))) σ) ∧ (¬ w = 14 → ((w = 15 → K (some (.int (σ 30 2))) σ) ∧ (¬ w = 15 → ((w = 16 → K (some (.int (σ 113 2))) σ) ∧ (¬ w = 16 → K (some (.int (-1))) σ)))))))))))))))))))))))))))))))))))) : gE 123 0 [some (.ref 0), some (.int w)] [] σ K :=
  gw_run (cy := 123) (cuts := []) (inl := []) (pf := gpeh) gpeh_ok 400 (by decide) h
theorem s123 {σ : gS} {K : gK} {w : Int32} (hc : SC σ) (hK : K (some (.int (aVl (cR σ 6) (cFm σ) (σ 30 2) (σ 113 2) w))) σ) : gE 123 0 [some (.ref 0), some (.int w)] [] σ K := by
  obtain ⟨hT, hP, hL, h0⟩ := hc
  have h7 : 0 ≤ σ 6 7 ∧ σ 6 7 ≤ 20 := SC_7 ⟨hT, hP, hL, h0⟩
  unfold aVl at hK
  refine w123 ⟨by decide, ⟨fun h0 => ?_, fun n0 => ⟨fun h1 => ?_, fun n1 => ⟨fun h2 => ?_, fun n2 => ⟨fun h3 => ?_, fun n3 => ⟨fun h4 => ?_, fun n4 => ⟨fun h5 => ⟨hT, ?_⟩, fun n5 => ⟨fun h6 => ⟨hT, ?_⟩, fun n6 => ⟨fun h7 => ⟨⟨hT, hP, hL, h0⟩, ?_⟩, fun n7 => ⟨fun h8 => ?_, fun n8 => ⟨fun h9 => ?_, fun n9 => ⟨fun h10 => ?_, fun n10 => ⟨fun h11 => ?_, fun n11 => ⟨fun h12 => ?_, fun n12 => ⟨fun h13 => ?_, fun n13 => ⟨fun h14 => ?_, fun n14 => ⟨fun h15 => ?_, fun n15 => ⟨fun h16 => ?_, fun n16 => ?_⟩⟩⟩⟩⟩⟩⟩⟩⟩⟩⟩⟩⟩⟩⟩⟩⟩⟩
  · rw [if_pos h0] at hK
    rw [cR_h (by decide)] at hK; exact hK
  · rw [if_neg n0, if_pos h1] at hK
    rw [cR_h (by decide)] at hK; exact hK
  · rw [if_neg n0, if_neg n1, if_pos h2] at hK
    rw [cR_h (by decide)] at hK; exact hK
  · rw [if_neg n0, if_neg n1, if_neg n2, if_pos h3] at hK
    rw [cR_h (by decide)] at hK; exact hK
  · rw [if_neg n0, if_neg n1, if_neg n2, if_neg n3, if_pos h4] at hK
    rw [cR_h (by decide), cR_h (by decide), Int32.mul_comm] at hK; exact hK
  · rw [if_neg n0, if_neg n1, if_neg n2, if_neg n3, if_neg n4, if_pos h5] at hK
    exact hK
  · rw [if_neg n0, if_neg n1, if_neg n2, if_neg n3, if_neg n4, if_neg n5, if_pos h6] at hK
    exact hK
  · rw [if_neg n0, if_neg n1, if_neg n2, if_neg n3, if_neg n4, if_neg n5, if_neg n6, if_pos h7] at hK
    exact hK
  · rw [if_neg n0, if_neg n1, if_neg n2, if_neg n3, if_neg n4, if_neg n5, if_neg n6, if_neg n7, if_pos h8] at hK
    rw [cR_h (by decide)] at hK; exact hK
  · rw [if_neg n0, if_neg n1, if_neg n2, if_neg n3, if_neg n4, if_neg n5, if_neg n6, if_neg n7, if_neg n8, if_pos h9] at hK
    rw [cR_h (by decide)] at hK; exact hK
  · rw [if_neg n0, if_neg n1, if_neg n2, if_neg n3, if_neg n4, if_neg n5, if_neg n6, if_neg n7, if_neg n8, if_neg n9, if_pos h10] at hK
    rw [cR_h (by decide)] at hK; exact hK
  · rw [if_neg n0, if_neg n1, if_neg n2, if_neg n3, if_neg n4, if_neg n5, if_neg n6, if_neg n7, if_neg n8, if_neg n9, if_neg n10, if_pos h11] at hK
    rw [cR_h (by decide)] at hK; exact hK
  · rw [if_neg n0, if_neg n1, if_neg n2, if_neg n3, if_neg n4, if_neg n5, if_neg n6, if_neg n7, if_neg n8, if_neg n9, if_neg n10, if_neg n11, if_pos h12] at hK
    rw [cR_h (by decide)] at hK; exact hK
  · rw [if_neg n0, if_neg n1, if_neg n2, if_neg n3, if_neg n4, if_neg n5, if_neg n6, if_neg n7, if_neg n8, if_neg n9, if_neg n10, if_neg n11, if_neg n12, if_pos h13] at hK
    rw [cR_h (by decide)] at hK; exact hK
  · rw [if_neg n0, if_neg n1, if_neg n2, if_neg n3, if_neg n4, if_neg n5, if_neg n6, if_neg n7, if_neg n8, if_neg n9, if_neg n10, if_neg n11, if_neg n12, if_neg n13, if_pos h14] at hK
    exact hK
  · rw [if_neg n0, if_neg n1, if_neg n2, if_neg n3, if_neg n4, if_neg n5, if_neg n6, if_neg n7, if_neg n8, if_neg n9, if_neg n10, if_neg n11, if_neg n12, if_neg n13, if_neg n14, if_pos h15] at hK
    exact hK
  · rw [if_neg n0, if_neg n1, if_neg n2, if_neg n3, if_neg n4, if_neg n5, if_neg n6, if_neg n7, if_neg n8, if_neg n9, if_neg n10, if_neg n11, if_neg n12, if_neg n13, if_neg n14, if_neg n15, if_pos h16] at hK
    exact hK
  · rw [if_neg n0, if_neg n1, if_neg n2, if_neg n3, if_neg n4, if_neg n5, if_neg n6, if_neg n7, if_neg n8, if_neg n9, if_neg n10, if_neg n11, if_neg n12, if_neg n13, if_neg n14, if_neg n15, if_neg n16] at hK
    exact hK
noncomputable def f123 : gD := fun Lv σ => match Lv with
  | [some (.ref q0), some (.int w)] => cond (Nat.beq q0 0) (some (some (SC σ), some (.int (aVl (cR σ 6) (cFm σ) (σ 30 2) (σ 113 2) w)), σ)) none
  | _ => none
theorem ok123 : gFok 123 f123 := by
  intro Lv σ q h hc K hK
  unfold f123 at h
  split at h
  · rename_i q0 w
    obtain ⟨hb, h⟩ := c_no h
    have hb0 := hb
    have e0 := b_eq hb0
    subst e0
    cases h
    exact s123 (hc _ rfl) hK
  · cases h
set_option maxRecDepth 20000 in
theorem w227 {σ : gS} {K : gK} {w : Int32} (h : ((0 : Int) + 17 = 16 + 1 ∧ ((w = 0 → (0 ≤ w ∧ w < 330) ∧ K (some (.int (σ 324 w.toNatClampNeg))) σ) ∧ (¬ w = 0 → ((w = 1 → (0 ≤ w ∧ w < 330) ∧ K (some (.int (σ 324 w.toNatClampNeg))) σ) ∧ (¬ w = 1 → ((w = 2 → (0 ≤ w ∧ w < 330) ∧ K (some (.int (σ 324 w.toNatClampNeg))) σ) ∧ (¬ w = 2 → ((w = 3 → (0 ≤ w ∧ w < 330) ∧ K (some (.int (σ 324 w.toNatClampNeg))) σ) ∧ (¬ w = 3 → ((w = 4 → (0 ≤ (0 : Int32) ∧ (0 : Int32) < 330) ∧ (0 ≤ (3 : Int32) ∧ (3 : Int32) < 330) ∧ K (some (.int ((4 * (σ 324 0)) - (σ 324 3)))) σ) ∧ (¬ w = 4 → ((w = 5 → (0 ≤ σ 324 3 ∧ σ 324 3 ≤ 20) ∧ K (some (.int ((fJa (σ 324)) + 10000))) σ) ∧ (¬ w = 5 → ((w = 6 → (0 ≤ σ 324 3 ∧ σ 324 3 ≤ 20) ∧ K (some (.int (fGr (σ 324)))) σ) ∧ (¬ w = 6 → ((w = 7 → (RS σ) ∧ K (some (.int (fSw (σ 324)))) σ) ∧ (¬ w = 7 → ((w = 8 → (0 ≤ ((4 + w) - 8) ∧ ((4 + w) - 8) < 330) ∧ K (some (.int (σ 324 ((4 + w) - 8).toNatClampNeg))) σ) ∧ (¬ w = 8 → ((w = 9 → (0 ≤ ((4 + w) - 8) ∧ ((4 + w) - 8) < 330) ∧ K (some (.int (σ 324 ((4 + w) - 8).toNatClampNeg))) σ) ∧ (¬ w = 9 → ((w = 10 → (0 ≤ ((4 + w) - 8) ∧ ((4 + w) - 8) < 330) ∧ K (some (.int (σ 324 ((4 + w) - 8).toNatClampNeg))) σ) ∧ (¬ w = 10 → ((w = 11 → (0 ≤ ((4 + w) - 8) ∧ ((4 + w) - 8) < 330) ∧ K (some (.int (σ 324 ((4 + w) - 8).toNatClampNeg))) σ) ∧ (¬ w = 11 → ((w = 12 → (0 ≤ ((4 + w) - 8) ∧ ((4 + w) - 8) < 330) ∧ K (some (.int (σ 324 ((4 + w) - 8).toNatClampNeg))) σ) ∧ (¬ w = 12 → ((w = 13 → K (some (.int ((σ 324 0 + 1) / 2))) σ) ∧ (¬ w = 13 → ((w = 14 → (RS σ) ∧ K (some (.int (fFs (fMF (σ 324))))) σ) ∧ (¬ w = 14 → ((w = 15 → (0 ≤ (209 : Int32) ∧ (209 : Int32) < 330) ∧ K (some (.int (σ 324 209))) σ) ∧ (¬ w = 15 → ((w = 16 → K (some (.int (σ 323 6))) σ) ∧ (¬ w = 16 → K (some (.int (-1))) σ)))))))))))))))))))))))))))))))))))) : gE 227 0 [some (.ref 323), some (.int w)] [] σ K :=
  gw_run (cy := 227) (cuts := []) (inl := []) (pf := gpeh) gpeh_ok 400 (by decide) h
theorem s227 {σ : gS} {K : gK} {w : Int32} (hc : RS σ) (hK : K (some (.int (aVl (σ 324) (fMF (σ 324)) (σ 324 209) (σ 323 6) w))) σ) : gE 227 0 [some (.ref 323), some (.int w)] [] σ K := by
  have hcc := hc
  obtain ⟨⟨h3, h9⟩, hu⟩ := hc
  unfold aVl at hK
  refine w227 ⟨by decide, ⟨fun h0 => ⟨by rw [h0]; decide, ?_⟩, fun n0 => ⟨fun h1 => ⟨by rw [h1]; decide, ?_⟩, fun n1 => ⟨fun h2 => ⟨by rw [h2]; decide, ?_⟩, fun n2 => ⟨fun h3 => ⟨by rw [h3]; decide, ?_⟩, fun n3 => ⟨fun h4 => ⟨by decide, by decide, ?_⟩, fun n4 => ⟨fun h5 => ⟨h3, ?_⟩, fun n5 => ⟨fun h6 => ⟨h3, ?_⟩, fun n6 => ⟨fun h7 => ⟨hcc, ?_⟩, fun n7 => ⟨fun h8 => ⟨by rw [h8]; decide, ?_⟩, fun n8 => ⟨fun h9 => ⟨by rw [h9]; decide, ?_⟩, fun n9 => ⟨fun h10 => ⟨by rw [h10]; decide, ?_⟩, fun n10 => ⟨fun h11 => ⟨by rw [h11]; decide, ?_⟩, fun n11 => ⟨fun h12 => ⟨by rw [h12]; decide, ?_⟩, fun n12 => ⟨fun h13 => ?_, fun n13 => ⟨fun h14 => ⟨hcc, ?_⟩, fun n14 => ⟨fun h15 => ⟨by decide, ?_⟩, fun n15 => ⟨fun h16 => ?_, fun n16 => ?_⟩⟩⟩⟩⟩⟩⟩⟩⟩⟩⟩⟩⟩⟩⟩⟩⟩⟩
  · rw [if_pos h0] at hK
    rw [h0]; exact hK
  · rw [if_neg n0, if_pos h1] at hK
    rw [h1]; exact hK
  · rw [if_neg n0, if_neg n1, if_pos h2] at hK
    rw [h2]; exact hK
  · rw [if_neg n0, if_neg n1, if_neg n2, if_pos h3] at hK
    rw [h3]; exact hK
  · rw [if_neg n0, if_neg n1, if_neg n2, if_neg n3, if_pos h4] at hK
    exact hK
  · rw [if_neg n0, if_neg n1, if_neg n2, if_neg n3, if_neg n4, if_pos h5] at hK
    exact hK
  · rw [if_neg n0, if_neg n1, if_neg n2, if_neg n3, if_neg n4, if_neg n5, if_pos h6] at hK
    exact hK
  · rw [if_neg n0, if_neg n1, if_neg n2, if_neg n3, if_neg n4, if_neg n5, if_neg n6, if_pos h7] at hK
    exact hK
  · rw [if_neg n0, if_neg n1, if_neg n2, if_neg n3, if_neg n4, if_neg n5, if_neg n6, if_neg n7, if_pos h8] at hK
    rw [h8]; exact hK
  · rw [if_neg n0, if_neg n1, if_neg n2, if_neg n3, if_neg n4, if_neg n5, if_neg n6, if_neg n7, if_neg n8, if_pos h9] at hK
    rw [h9]; exact hK
  · rw [if_neg n0, if_neg n1, if_neg n2, if_neg n3, if_neg n4, if_neg n5, if_neg n6, if_neg n7, if_neg n8, if_neg n9, if_pos h10] at hK
    rw [h10]; exact hK
  · rw [if_neg n0, if_neg n1, if_neg n2, if_neg n3, if_neg n4, if_neg n5, if_neg n6, if_neg n7, if_neg n8, if_neg n9, if_neg n10, if_pos h11] at hK
    rw [h11]; exact hK
  · rw [if_neg n0, if_neg n1, if_neg n2, if_neg n3, if_neg n4, if_neg n5, if_neg n6, if_neg n7, if_neg n8, if_neg n9, if_neg n10, if_neg n11, if_pos h12] at hK
    rw [h12]; exact hK
  · rw [if_neg n0, if_neg n1, if_neg n2, if_neg n3, if_neg n4, if_neg n5, if_neg n6, if_neg n7, if_neg n8, if_neg n9, if_neg n10, if_neg n11, if_neg n12, if_pos h13] at hK
    exact hK
  · rw [if_neg n0, if_neg n1, if_neg n2, if_neg n3, if_neg n4, if_neg n5, if_neg n6, if_neg n7, if_neg n8, if_neg n9, if_neg n10, if_neg n11, if_neg n12, if_neg n13, if_pos h14] at hK
    exact hK
  · rw [if_neg n0, if_neg n1, if_neg n2, if_neg n3, if_neg n4, if_neg n5, if_neg n6, if_neg n7, if_neg n8, if_neg n9, if_neg n10, if_neg n11, if_neg n12, if_neg n13, if_neg n14, if_pos h15] at hK
    exact hK
  · rw [if_neg n0, if_neg n1, if_neg n2, if_neg n3, if_neg n4, if_neg n5, if_neg n6, if_neg n7, if_neg n8, if_neg n9, if_neg n10, if_neg n11, if_neg n12, if_neg n13, if_neg n14, if_neg n15, if_pos h16] at hK
    exact hK
  · rw [if_neg n0, if_neg n1, if_neg n2, if_neg n3, if_neg n4, if_neg n5, if_neg n6, if_neg n7, if_neg n8, if_neg n9, if_neg n10, if_neg n11, if_neg n12, if_neg n13, if_neg n14, if_neg n15, if_neg n16] at hK
    exact hK
noncomputable def f227 : gD := fun Lv σ => match Lv with
  | [some (.ref q0), some (.int w)] => cond (Nat.beq q0 323) (some (some (RS σ), some (.int (aVl (σ 324) (fMF (σ 324)) (σ 324 209) (σ 323 6) w)), σ)) none
  | _ => none
theorem ok227 : gFok 227 f227 := by
  intro Lv σ q h hc K hK
  unfold f227 at h
  split at h
  · rename_i q0 w
    obtain ⟨hb, h⟩ := c_no h
    have hb0 := hb
    have e0 := b_eq hb0
    subst e0
    cases h
    exact s227 (hc _ rfl) hK
  · cases h
set_option maxRecDepth 20000 in
theorem w124 {σ : gS} {K : gK} {t w : Int32} (h : ((¬ (bI (isT (cR σ 6) t)) = 0 → (0 ≤ t ∧ t < 20) ∧ ((0 : Int) + 12 = 11 + 1 ∧ ((w = 0 → gTv (6 + 2 + t.toNatClampNeg) ∧ K (some (.int (σ (6 + 2 + t.toNatClampNeg) 1))) σ) ∧ (¬ w = 0 → ((w = 1 → gTv (6 + 2 + t.toNatClampNeg) ∧ K (some (.int (σ (6 + 2 + t.toNatClampNeg) 2))) σ) ∧ (¬ w = 1 → ((w = 2 → gTv (6 + 2 + t.toNatClampNeg) ∧ K (some (.int (σ (6 + 2 + t.toNatClampNeg) 3))) σ) ∧ (¬ w = 2 → ((w = 3 → gTv (6 + 2 + t.toNatClampNeg) ∧ K (some (.int ((σ (6 + 2 + t.toNatClampNeg) 4) + 9))) σ) ∧ (¬ w = 3 → ((w = 4 → gTv (6 + 2 + t.toNatClampNeg) ∧ K (some (.int ((σ (6 + 2 + t.toNatClampNeg) 5) + 9))) σ) ∧ (¬ w = 4 → ((w = 5 → gTv (6 + 2 + t.toNatClampNeg) ∧ K (some (.int (σ (6 + 2 + t.toNatClampNeg) 6))) σ) ∧ (¬ w = 5 → ((w = 6 → gTv (6 + 2 + t.toNatClampNeg) ∧ K (some (.int (σ (6 + 2 + t.toNatClampNeg) 7))) σ) ∧ (¬ w = 6 → ((w = 7 → gTv (6 + 2 + t.toNatClampNeg) ∧ K (some (.int (σ (6 + 2 + t.toNatClampNeg) 8))) σ) ∧ (¬ w = 7 → ((w = 8 → gTv (6 + 2 + t.toNatClampNeg) ∧ K (some (.int (σ (6 + 2 + t.toNatClampNeg) 9))) σ) ∧ (¬ w = 8 → ((w = 9 → (((0 ≤ t ∧ t < 20) ∧ t.toNatClampNeg < nM (cR σ 6)) ∧ TC σ 6) ∧ K (some (.int ((fJo (cR σ 6) t.toNatClampNeg) + 100))) σ) ∧ (¬ w = 9 → ((w = 10 → gTv (6 + 2 + t.toNatClampNeg) ∧ (8 : Int32) ≠ 0 ∧ (gTv (6 + 2 + t.toNatClampNeg)) ∧ K (some (.int (cRel σ 6 (6 + 2 + t.toNatClampNeg) ((σ (6 + 2 + t.toNatClampNeg) 1) / 8)))) σ) ∧ (¬ w = 10 → ((w = 11 → (SC σ ∧ isN σ 6 t) ∧ K (some (.int (fPl (cR σ 6) t.toNatClampNeg))) σ) ∧ (¬ w = 11 → K (some (.int (-1))) σ)))))))))))))))))))))))))) ∧ ((bI (isT (cR σ 6) t)) = 0 → K (some (.int (-1))) σ))) : gE 124 0 [some (.ref 0), some (.int t), some (.int w), none] [] σ K :=
  gw_run (cy := 124) (cuts := []) (inl := []) (pf := gpeh) gpeh_ok 400 (by decide) h
theorem s124 {σ : gS} {K : gK} {t w : Int32} (hc : SC σ) (hK : K (some (.int (aOf (cR σ 6) (cRel σ 6 (8 + t.toNatClampNeg) (fld (cR σ 6) t.toNatClampNeg 0 / 8)) t w))) σ) : gE 124 0 [some (.ref 0), some (.int t), some (.int w), none] [] σ K := by
  obtain ⟨hT, hP, hL, h0⟩ := hc
  have h7 : 0 ≤ σ 6 7 ∧ σ 6 7 ≤ 20 := SC_7 ⟨hT, hP, hL, h0⟩
  unfold aOf at hK
  refine w124 ⟨fun h => ?_, fun h => ?_⟩
  · have hp := isN_of hT.1 (dnn h)
    have lt := n20 hp.1
    have tv := tv_6 _ lt
    rw [if_pos (dnn h)] at hK
    unfold aOf0 at hK
    refine ⟨hp.1, by decide, ⟨fun h0 => ⟨tv, ?_⟩, fun n0 => ⟨fun h1 => ⟨tv, ?_⟩, fun n1 => ⟨fun h2 => ⟨tv, ?_⟩, fun n2 => ⟨fun h3 => ⟨tv, ?_⟩, fun n3 => ⟨fun h4 => ⟨tv, ?_⟩, fun n4 => ⟨fun h5 => ⟨tv, ?_⟩, fun n5 => ⟨fun h6 => ⟨tv, ?_⟩, fun n6 => ⟨fun h7 => ⟨tv, ?_⟩, fun n7 => ⟨fun h8 => ⟨tv, ?_⟩, fun n8 => ⟨fun h9 => ⟨⟨hp, hT⟩, ?_⟩, fun n9 => ⟨fun h10 => ⟨tv, by decide, tv, ?_⟩, fun n10 => ⟨fun h11 => ⟨⟨⟨hT, hP, hL, h0⟩, hp⟩, ?_⟩, fun n11 => ?_⟩⟩⟩⟩⟩⟩⟩⟩⟩⟩⟩⟩⟩
    · rw [if_pos h0] at hK
      rw [cR_f lt (by decide)] at hK; exact hK
    · rw [if_neg n0, if_pos h1] at hK
      rw [cR_f lt (by decide)] at hK; exact hK
    · rw [if_neg n0, if_neg n1, if_pos h2] at hK
      rw [cR_f lt (by decide)] at hK; exact hK
    · rw [if_neg n0, if_neg n1, if_neg n2, if_pos h3] at hK
      rw [cR_f lt (by decide)] at hK; exact hK
    · rw [if_neg n0, if_neg n1, if_neg n2, if_neg n3, if_pos h4] at hK
      rw [cR_f lt (by decide)] at hK; exact hK
    · rw [if_neg n0, if_neg n1, if_neg n2, if_neg n3, if_neg n4, if_pos h5] at hK
      rw [cR_f lt (by decide)] at hK; exact hK
    · rw [if_neg n0, if_neg n1, if_neg n2, if_neg n3, if_neg n4, if_neg n5, if_pos h6] at hK
      rw [cR_f lt (by decide)] at hK; exact hK
    · rw [if_neg n0, if_neg n1, if_neg n2, if_neg n3, if_neg n4, if_neg n5, if_neg n6, if_pos h7] at hK
      rw [cR_f lt (by decide)] at hK; exact hK
    · rw [if_neg n0, if_neg n1, if_neg n2, if_neg n3, if_neg n4, if_neg n5, if_neg n6, if_neg n7, if_pos h8] at hK
      rw [cR_f lt (by decide)] at hK; exact hK
    · rw [if_neg n0, if_neg n1, if_neg n2, if_neg n3, if_neg n4, if_neg n5, if_neg n6, if_neg n7, if_neg n8, if_pos h9] at hK
      exact hK
    · rw [if_neg n0, if_neg n1, if_neg n2, if_neg n3, if_neg n4, if_neg n5, if_neg n6, if_neg n7, if_neg n8, if_neg n9, if_pos h10] at hK
      rw [cR_f lt (by decide)] at hK; exact hK
    · rw [if_neg n0, if_neg n1, if_neg n2, if_neg n3, if_neg n4, if_neg n5, if_neg n6, if_neg n7, if_neg n8, if_neg n9, if_neg n10, if_pos h11] at hK
      exact hK
    · rw [if_neg n0, if_neg n1, if_neg n2, if_neg n3, if_neg n4, if_neg n5, if_neg n6, if_neg n7, if_neg n8, if_neg n9, if_neg n10, if_neg n11] at hK
      exact hK
  · rw [if_neg (bI_0.mp h)] at hK; exact hK
noncomputable def f124 : gD := fun Lv σ => match Lv with
  | [some (.ref q0), some (.int t), some (.int w), none] => cond (Nat.beq q0 0) (some (some (SC σ), some (.int (aOf (cR σ 6) (cRel σ 6 (8 + t.toNatClampNeg) (fld (cR σ 6) t.toNatClampNeg 0 / 8)) t w)), σ)) none
  | _ => none
theorem ok124 : gFok 124 f124 := by
  intro Lv σ q h hc K hK
  unfold f124 at h
  split at h
  · rename_i q0 t w
    obtain ⟨hb, h⟩ := c_no h
    have hb0 := hb
    have e0 := b_eq hb0
    subst e0
    cases h
    exact s124 (hc _ rfl) hK
  · cases h
set_option maxRecDepth 20000 in
theorem w229 {σ : gS} {K : gK} {t w : Int32} (h : ((¬ (bI (isT (σ 324) t)) = 0 → (0 ≤ (9 + 10 * t + (0 : Int32)) ∧ (9 + 10 * t + (0 : Int32)) < 330) ∧ ((0 : Int) + 12 = 11 + 1 ∧ ((w = 0 → K (some (.int (σ 324 (9 + 10 * t + (0 : Int32)).toNatClampNeg))) σ) ∧ (¬ w = 0 → ((w = 1 → (0 ≤ (9 + 10 * t + (1 : Int32)) ∧ (9 + 10 * t + (1 : Int32)) < 330) ∧ K (some (.int (σ 324 (9 + 10 * t + (1 : Int32)).toNatClampNeg))) σ) ∧ (¬ w = 1 → ((w = 2 → (0 ≤ (9 + 10 * t + (2 : Int32)) ∧ (9 + 10 * t + (2 : Int32)) < 330) ∧ K (some (.int (σ 324 (9 + 10 * t + (2 : Int32)).toNatClampNeg))) σ) ∧ (¬ w = 2 → ((w = 3 → (0 ≤ (9 + 10 * t + (3 : Int32)) ∧ (9 + 10 * t + (3 : Int32)) < 330) ∧ K (some (.int ((σ 324 (9 + 10 * t + (3 : Int32)).toNatClampNeg) + 9))) σ) ∧ (¬ w = 3 → ((w = 4 → (0 ≤ (9 + 10 * t + (4 : Int32)) ∧ (9 + 10 * t + (4 : Int32)) < 330) ∧ K (some (.int ((σ 324 (9 + 10 * t + (4 : Int32)).toNatClampNeg) + 9))) σ) ∧ (¬ w = 4 → ((w = 5 → (0 ≤ (9 + 10 * t + (5 : Int32)) ∧ (9 + 10 * t + (5 : Int32)) < 330) ∧ K (some (.int (σ 324 (9 + 10 * t + (5 : Int32)).toNatClampNeg))) σ) ∧ (¬ w = 5 → ((w = 6 → (0 ≤ (9 + 10 * t + (6 : Int32)) ∧ (9 + 10 * t + (6 : Int32)) < 330) ∧ K (some (.int (σ 324 (9 + 10 * t + (6 : Int32)).toNatClampNeg))) σ) ∧ (¬ w = 6 → ((w = 7 → (0 ≤ (9 + 10 * t + (7 : Int32)) ∧ (9 + 10 * t + (7 : Int32)) < 330) ∧ K (some (.int (σ 324 (9 + 10 * t + (7 : Int32)).toNatClampNeg))) σ) ∧ (¬ w = 7 → ((w = 8 → (0 ≤ (9 + 10 * t + (8 : Int32)) ∧ (9 + 10 * t + (8 : Int32)) < 330) ∧ K (some (.int (σ 324 (9 + 10 * t + (8 : Int32)).toNatClampNeg))) σ) ∧ (¬ w = 8 → ((w = 9 → ((0 ≤ t ∧ t < 20) ∧ 0 ≤ σ 324 3 ∧ σ 324 3 ≤ 20) ∧ K (some (.int ((fJo (σ 324) t.toNatClampNeg) + 100))) σ) ∧ (¬ w = 9 → ((w = 10 → ((0 ≤ t ∧ t < 20) ∧ 0 ≤ σ 324 3 ∧ σ 324 3 ≤ 20) ∧ K (some (.int (kin (σ 324) t.toNatClampNeg ((σ 324 (9 + 10 * t + (0 : Int32)).toNatClampNeg) / 8)))) σ) ∧ (¬ w = 10 → ((w = 11 → (RS σ ∧ (0 ≤ t ∧ t < 20)) ∧ K (some (.int (fPl (σ 324) t.toNatClampNeg))) σ) ∧ (¬ w = 11 → K (some (.int (-1))) σ)))))))))))))))))))))))))) ∧ ((bI (isT (σ 324) t)) = 0 → K (some (.int (-1))) σ))) : gE 229 0 [some (.ref 323), some (.int t), some (.int w), none] [] σ K :=
  gw_run (cy := 229) (cuts := []) (inl := []) (pf := gpeh) gpeh_ok 400 (by decide) h
theorem s229 {σ : gS} {K : gK} {t w : Int32} (hc : RS σ) (hK : K (some (.int (aOf (σ 324) (kin (σ 324) t.toNatClampNeg (fld (σ 324) t.toNatClampNeg 0 / 8)) t w))) σ) : gE 229 0 [some (.ref 323), some (.int t), some (.int w), none] [] σ K := by
  have hcc := hc
  obtain ⟨⟨h3, h9⟩, hu⟩ := hc
  unfold aOf at hK
  refine w229 ⟨fun h => ?_, fun h => ?_⟩
  · have ht := isT_of h3 (dnn h)
    rw [if_pos (dnn h)] at hK
    clear h
    obtain ⟨et, lt⟩ := t20 ht
    obtain ⟨m, hm⟩ : ∃ m, t.toNatClampNeg = m := ⟨_, rfl⟩
    rw [hm] at et lt hK
    subst et
    have em : (iN m).toNatClampNeg = m := iN_nat (by omega)
    unfold aOf0 at hK
    refine ⟨ixb0 lt, by decide, ?_⟩
    rw [ix0 lt, ix1 lt, ix2 lt, ix3 lt, ix4 lt, ix5 lt, ix6 lt, ix7 lt, ix8 lt, em]
    refine ⟨fun h0 => ?_, fun n0 => ⟨fun h1 => ⟨ixb1 lt, ?_⟩, fun n1 => ⟨fun h2 => ⟨ixb2 lt, ?_⟩, fun n2 => ⟨fun h3 => ⟨ixb3 lt, ?_⟩, fun n3 => ⟨fun h4 => ⟨ixb4 lt, ?_⟩, fun n4 => ⟨fun h5 => ⟨ixb5 lt, ?_⟩, fun n5 => ⟨fun h6 => ⟨ixb6 lt, ?_⟩, fun n6 => ⟨fun h7 => ⟨ixb7 lt, ?_⟩, fun n7 => ⟨fun h8 => ⟨ixb8 lt, ?_⟩, fun n8 => ⟨fun h9 => ⟨⟨ht, h3⟩, ?_⟩, fun n9 => ⟨fun h10 => ⟨⟨ht, h3⟩, ?_⟩, fun n10 => ⟨fun h11 => ⟨⟨hcc, ht⟩, ?_⟩, fun n11 => ?_⟩⟩⟩⟩⟩⟩⟩⟩⟩⟩⟩⟩
    · rw [if_pos h0] at hK
      exact hK
    · rw [if_neg n0, if_pos h1] at hK
      exact hK
    · rw [if_neg n0, if_neg n1, if_pos h2] at hK
      exact hK
    · rw [if_neg n0, if_neg n1, if_neg n2, if_pos h3] at hK
      exact hK
    · rw [if_neg n0, if_neg n1, if_neg n2, if_neg n3, if_pos h4] at hK
      exact hK
    · rw [if_neg n0, if_neg n1, if_neg n2, if_neg n3, if_neg n4, if_pos h5] at hK
      exact hK
    · rw [if_neg n0, if_neg n1, if_neg n2, if_neg n3, if_neg n4, if_neg n5, if_pos h6] at hK
      exact hK
    · rw [if_neg n0, if_neg n1, if_neg n2, if_neg n3, if_neg n4, if_neg n5, if_neg n6, if_pos h7] at hK
      exact hK
    · rw [if_neg n0, if_neg n1, if_neg n2, if_neg n3, if_neg n4, if_neg n5, if_neg n6, if_neg n7, if_pos h8] at hK
      exact hK
    · rw [if_neg n0, if_neg n1, if_neg n2, if_neg n3, if_neg n4, if_neg n5, if_neg n6, if_neg n7, if_neg n8, if_pos h9] at hK
      exact hK
    · rw [if_neg n0, if_neg n1, if_neg n2, if_neg n3, if_neg n4, if_neg n5, if_neg n6, if_neg n7, if_neg n8, if_neg n9, if_pos h10] at hK
      exact hK
    · rw [if_neg n0, if_neg n1, if_neg n2, if_neg n3, if_neg n4, if_neg n5, if_neg n6, if_neg n7, if_neg n8, if_neg n9, if_neg n10, if_pos h11] at hK
      exact hK
    · rw [if_neg n0, if_neg n1, if_neg n2, if_neg n3, if_neg n4, if_neg n5, if_neg n6, if_neg n7, if_neg n8, if_neg n9, if_neg n10, if_neg n11] at hK
      exact hK
  · rw [if_neg (bI_0.mp h)] at hK; exact hK
noncomputable def f229 : gD := fun Lv σ => match Lv with
  | [some (.ref q0), some (.int t), some (.int w), none] => cond (Nat.beq q0 323) (some (some (RS σ), some (.int (aOf (σ 324) (kin (σ 324) t.toNatClampNeg (fld (σ 324) t.toNatClampNeg 0 / 8)) t w)), σ)) none
  | _ => none
theorem ok229 : gFok 229 f229 := by
  intro Lv σ q h hc K hK
  unfold f229 at h
  split at h
  · rename_i q0 t w
    obtain ⟨hb, h⟩ := c_no h
    have hb0 := hb
    have e0 := b_eq hb0
    subst e0
    cases h
    exact s229 (hc _ rfl) hK
  · cases h
set_option maxRecDepth 20000 in
theorem w127 {σ : gS} {K : gK} {b w : Int32} (h : ((¬ (bI ((0 : Int32) ≤ b ∧ b ≤ (((σ 6 4 + 1) / 2) - 1))) = 0 → ((0 : Int) + 4 = 3 + 1 ∧ ((w = 0 → (SC σ) ∧ K (some (.int (fAc (cR σ 6) b))) σ) ∧ (¬ w = 0 → ((w = 1 → (SC σ) ∧ K (some (.int (fAg (cR σ 6) b))) σ) ∧ (¬ w = 1 → ((w = 2 → (SC σ) ∧ K (some (.int ((fAj (cR σ 6) b) + 1000))) σ) ∧ (¬ w = 2 → ((w = 3 → K (some (.int (gfA (cMa σ 6 b)))) σ) ∧ (¬ w = 3 → K (some (.int (-1))) σ)))))))))) ∧ ((bI ((0 : Int32) ≤ b ∧ b ≤ (((σ 6 4 + 1) / 2) - 1))) = 0 → K (some (.int (-1))) σ))) : gE 127 0 [some (.ref 0), some (.int b), some (.int w)] [] σ K :=
  gw_run (cy := 127) (cuts := []) (inl := []) (pf := gpeh) gpeh_ok 400 (by decide) h
theorem s127 {σ : gS} {K : gK} {b w : Int32} (hc : SC σ) (hK : K (some (.int (aTb (cR σ 6) (cMa σ 6 b) b w))) σ) : gE 127 0 [some (.ref 0), some (.int b), some (.int w)] [] σ K := by
  have hcc := hc
  obtain ⟨hT, hP, hL, h0⟩ := hc
  have h7 : 0 ≤ σ 6 7 ∧ σ 6 7 ≤ 20 := SC_7 ⟨hT, hP, hL, h0⟩
  unfold aTb at hK
  rw [cR_0] at hK
  refine w127 ⟨fun h => ?_, fun h => ?_⟩
  · rw [if_pos (dnn h)] at hK
    refine ⟨by decide, ⟨fun h0 => ⟨hcc, ?_⟩, fun n0 => ⟨fun h1 => ⟨hcc, ?_⟩, fun n1 => ⟨fun h2 => ⟨hcc, ?_⟩, fun n2 => ⟨fun h3 => ?_, fun n3 => ?_⟩⟩⟩⟩⟩
    · rw [if_pos h0] at hK
      exact hK
    · rw [if_neg n0, if_pos h1] at hK
      exact hK
    · rw [if_neg n0, if_neg n1, if_pos h2] at hK
      exact hK
    · rw [if_neg n0, if_neg n1, if_neg n2, if_pos h3] at hK
      exact hK
    · rw [if_neg n0, if_neg n1, if_neg n2, if_neg n3] at hK
      exact hK
  · rw [if_neg (bI_0.mp h)] at hK; exact hK
noncomputable def f127 : gD := fun Lv σ => match Lv with
  | [some (.ref q0), some (.int b), some (.int w)] => cond (Nat.beq q0 0) (some (some (SC σ), some (.int (aTb (cR σ 6) (cMa σ 6 b) b w)), σ)) none
  | _ => none
theorem ok127 : gFok 127 f127 := by
  intro Lv σ q h hc K hK
  unfold f127 at h
  split at h
  · rename_i q0 b w
    obtain ⟨hb, h⟩ := c_no h
    have hb0 := hb
    have e0 := b_eq hb0
    subst e0
    cases h
    exact s127 (hc _ rfl) hK
  · cases h
set_option maxRecDepth 20000 in
theorem w128 {σ : gS} {K : gK} {f w : Int32} (h : ((¬ (bI ((1 : Int32) ≤ f ∧ f ≤ (9 : Int32))) = 0 → ((0 : Int) + 3 = 2 + 1 ∧ ((w = 0 → K (some (.int (cFm σ f))) σ) ∧ (¬ w = 0 → ((w = 1 → K (some (.int (cFt σ f))) σ) ∧ (¬ w = 1 → ((w = 2 → (SC σ) ∧ K (some (.int ((fJF (cR σ 6) f) + 1000))) σ) ∧ (¬ w = 2 → K (some (.int (-1))) σ)))))))) ∧ ((bI ((1 : Int32) ≤ f ∧ f ≤ (9 : Int32))) = 0 → K (some (.int (-1))) σ))) : gE 128 0 [some (.ref 0), some (.int f), some (.int w)] [] σ K :=
  gw_run (cy := 128) (cuts := []) (inl := []) (pf := gpeh) gpeh_ok 400 (by decide) h
theorem s128 {σ : gS} {K : gK} {f w : Int32} (hc : SC σ) (hK : K (some (.int (aFa (cR σ 6) (cFm σ f) (cFt σ f) f w))) σ) : gE 128 0 [some (.ref 0), some (.int f), some (.int w)] [] σ K := by
  have hcc := hc
  unfold aFa at hK
  refine w128 ⟨fun h => ?_, fun h => ?_⟩
  · rw [if_pos (dnn h)] at hK
    refine ⟨by decide, ⟨fun h0 => ?_, fun n0 => ⟨fun h1 => ?_, fun n1 => ⟨fun h2 => ⟨hcc, ?_⟩, fun n2 => ?_⟩⟩⟩⟩
    · rw [if_pos h0] at hK
      exact hK
    · rw [if_neg n0, if_pos h1] at hK
      exact hK
    · rw [if_neg n0, if_neg n1, if_pos h2] at hK
      exact hK
    · rw [if_neg n0, if_neg n1, if_neg n2] at hK
      exact hK
  · rw [if_neg (bI_0.mp h)] at hK; exact hK
noncomputable def f128 : gD := fun Lv σ => match Lv with
  | [some (.ref q0), some (.int f), some (.int w)] => cond (Nat.beq q0 0) (some (some (SC σ), some (.int (aFa (cR σ 6) (cFm σ f) (cFt σ f) f w)), σ)) none
  | _ => none
theorem ok128 : gFok 128 f128 := by
  intro Lv σ q h hc K hK
  unfold f128 at h
  split at h
  · rename_i q0 f w
    obtain ⟨hb, h⟩ := c_no h
    have hb0 := hb
    have e0 := b_eq hb0
    subst e0
    cases h
    exact s128 (hc _ rfl) hK
  · cases h
set_option maxRecDepth 20000 in
theorem w238 {σ : gS} {K : gK} {f w : Int32} (h : ((¬ (bI ((1 : Int32) ≤ f ∧ f ≤ (9 : Int32))) = 0 → ((0 : Int) + 3 = 2 + 1 ∧ ((w = 0 → (RS σ) ∧ K (some (.int (fMF (σ 324) f))) σ) ∧ (¬ w = 0 → ((w = 1 → (RS σ ∧ (2 ≤ σ 324 0 ∧ σ 324 0 ≤ 10)) ∧ K (some (.int (rFt (σ 324) f))) σ) ∧ (¬ w = 1 → ((w = 2 → (RS σ) ∧ K (some (.int ((fJF (σ 324) f) + 1000))) σ) ∧ (¬ w = 2 → K (some (.int (-1))) σ)))))))) ∧ ((bI ((1 : Int32) ≤ f ∧ f ≤ (9 : Int32))) = 0 → K (some (.int (-1))) σ))) : gE 238 0 [some (.ref 323), some (.int f), some (.int w)] [] σ K :=
  gw_run (cy := 238) (cuts := []) (inl := []) (pf := gpeh) gpeh_ok 400 (by decide) h
theorem s238 {σ : gS} {K : gK} {f w : Int32} (hc : RS σ ∧ (2 ≤ σ 324 0 ∧ σ 324 0 ≤ 10)) (hK : K (some (.int (aFa (σ 324) (fMF (σ 324) f) (rFt (σ 324) f) f w))) σ) : gE 238 0 [some (.ref 323), some (.int f), some (.int w)] [] σ K := by
  have hcc := hc
  unfold aFa at hK
  refine w238 ⟨fun h => ?_, fun h => ?_⟩
  · rw [if_pos (dnn h)] at hK
    refine ⟨by decide, ⟨fun h0 => ⟨hcc.1, ?_⟩, fun n0 => ⟨fun h1 => ⟨hcc, ?_⟩, fun n1 => ⟨fun h2 => ⟨hcc.1, ?_⟩, fun n2 => ?_⟩⟩⟩⟩
    · rw [if_pos h0] at hK
      exact hK
    · rw [if_neg n0, if_pos h1] at hK
      exact hK
    · rw [if_neg n0, if_neg n1, if_pos h2] at hK
      exact hK
    · rw [if_neg n0, if_neg n1, if_neg n2] at hK
      exact hK
  · rw [if_neg (bI_0.mp h)] at hK; exact hK
noncomputable def f238 : gD := fun Lv σ => match Lv with
  | [some (.ref q0), some (.int f), some (.int w)] => cond (Nat.beq q0 323) (some (some (RS σ ∧ (2 ≤ σ 324 0 ∧ σ 324 0 ≤ 10)), some (.int (aFa (σ 324) (fMF (σ 324) f) (rFt (σ 324) f) f w)), σ)) none
  | _ => none
theorem ok238 : gFok 238 f238 := by
  intro Lv σ q h hc K hK
  unfold f238 at h
  split at h
  · rename_i q0 f w
    obtain ⟨hb, h⟩ := c_no h
    have hb0 := hb
    have e0 := b_eq hb0
    subst e0
    cases h
    exact s238 (hc _ rfl) hK
  · cases h
set_option maxRecDepth 20000 in
theorem w235 {σ : gS} {K : gK} {b w : Int32} (h : (((bI ((0 : Int32) ≤ b ∧ b ≤ (((σ 324 0 + 1) / 2) - 1))) = 0 → K (some (.int (-1))) σ) ∧ (¬ (bI ((0 : Int32) ≤ b ∧ b ≤ (((σ 324 0 + 1) / 2) - 1))) = 0 → ((¬ (bI ((0 : Int32) ≤ w ∧ w ≤ (3 : Int32))) = 0 → gE 235 39 [some (.ref 323), some (.int b), some (.int w), some (.int 0), some (.int 0), some (.int 0), some (.int 0), none] [] σ K) ∧ ((bI ((0 : Int32) ≤ w ∧ w ≤ (3 : Int32))) = 0 → K (some (.int (-1))) σ))))) : gE 235 0 [some (.ref 323), some (.int b), some (.int w), none, none, none, none, none] [] σ K :=
  gw_run (cy := 235) (cuts := [39]) (inl := []) (pf := gpeh) gpeh_ok 400 (by decide) h
set_option maxRecDepth 20000 in
theorem c235_39 {σ : gS} {K : gK} {l1 l2 l3 l4 l5 l6 : Int32} {l7 : Option Value} (h : (0 ≤ (3 : Int32) ∧ (3 : Int32) < 330) ∧ ((¬ l6 < (σ 324 3) → ((¬ l2 = 0 → ((¬ l2 = 1 → ((¬ l2 = 2 → (RS σ) ∧ K (some (.int (gfA (fun f => iN (mem (σ 324) l1 f))))) σ) ∧ (l2 = 2 → K (some (.int (l5 + 1000))) σ))) ∧ (l2 = 1 → K (some (.int l4)) σ))) ∧ (l2 = 0 → K (some (.int l3)) σ))) ∧ (l6 < (σ 324 3) → (0 ≤ l6 ∧ l6 < 20) ∧ ((¬ (bI (fld (σ 324) l6.toNatClampNeg 0 / 8 = l1)) = 0 → ((0 ≤ l6 ∧ l6 < 20) ∧ 0 ≤ σ 324 3 ∧ σ 324 3 ≤ 20) ∧ ((¬ (fJo (σ 324) l6.toNatClampNeg) < 0 → gE 235 39 [some (.ref 323), some (.int l1), some (.int l2), some (.int (l3 + 1)), some (.int l4), some (.int (l5 + (fJo (σ 324) l6.toNatClampNeg))), some (.int (l6 + 1)), some (.int (fJo (σ 324) l6.toNatClampNeg))] [] σ K) ∧ ((fJo (σ 324) l6.toNatClampNeg) < 0 → gE 235 39 [some (.ref 323), some (.int l1), some (.int l2), some (.int (l3 + 1)), some (.int (l4 + 1)), some (.int (l5 + (fJo (σ 324) l6.toNatClampNeg))), some (.int (l6 + 1)), some (.int (fJo (σ 324) l6.toNatClampNeg))] [] σ K))) ∧ ((bI (fld (σ 324) l6.toNatClampNeg 0 / 8 = l1)) = 0 → gE 235 39 [some (.ref 323), some (.int l1), some (.int l2), some (.int l3), some (.int l4), some (.int l5), some (.int (l6 + 1)), l7] [] σ K))))) : gE 235 39 [some (.ref 323), some (.int l1), some (.int l2), some (.int l3), some (.int l4), some (.int l5), some (.int l6), l7] [] σ K :=
  gw_run (cy := 235) (cuts := [39]) (inl := []) (pf := gpeh) gpeh_ok 400 (by decide) h
theorem s235 {σ : gS} {K : gK} {b w : Int32} (hc : RS σ) (hK : K (some (.int (aTb (σ 324) (fun f => iN (mem (σ 324) b f)) b w))) σ) : gE 235 0 [some (.ref 323), some (.int b), some (.int w), none, none, none, none, none] [] σ K := by
  have hcc := hc
  obtain ⟨⟨h3, h9⟩, hu⟩ := hc
  unfold aTb at hK
  refine w235 ⟨fun h => ?_, fun h => ⟨fun h2 => ?_, fun h2 => ?_⟩⟩
  · rw [if_neg (bI_0.mp h)] at hK; exact hK
  · rw [if_pos (dnn h)] at hK
    refine g_forJ (nM (σ 324)) (fun k u => [some (.ref 323), some (.int b), some (.int w), some (.int (iN (cnt (fun t => decide (fld (σ 324) t 0 / 8 = b)) k))), some (.int (iN (cnt (fun t => decide (fld (σ 324) t 0 / 8 = b ∧ fJo (σ 324) t < 0)) k))), some (.int (sm (fun t => if fld (σ 324) t 0 / 8 = b then fJo (σ 324) t else 0) k)), some (.int (iN k)), u]) (fun _ => σ) (fun _ => True) (fun _ u => ?_) (fun k hk _ ih u => ?_) 0 (Nat.zero_le _) trivial none
    · have hn := (nM_of h3).2
      refine c235_39 ⟨by decide, fun _ => ⟨fun q0 => ⟨fun q1 => ⟨fun q2 => ⟨hcc, ?_⟩, fun q2 => ?_⟩, fun q1 => ?_⟩, fun q0 => ?_⟩, fun h => ?_⟩
      · have q3 : w = 3 := by
          have h2 := dnn h2
          have a := h2.1
          have b := h2.2
          grind
        rw [if_neg q0, if_neg q1, if_neg q2, if_pos q3] at hK
        exact hK
      · rw [if_neg q0, if_neg q1, if_pos q2] at hK; exact hK
      · rw [if_neg q0, if_pos q1] at hK; exact hK
      · rw [if_pos q0] at hK; exact hK
      · rw [nM_lt h3 (by omega)] at h; omega
    · have hn := (nM_of h3).2
      have hk20 : k < 20 := by omega
      have ek : (iN k).toNatClampNeg = k := iN_nat (by omega)
      have ih := ih trivial
      refine c235_39 ⟨by decide, fun h => ?_, fun h => ⟨b20 hk20, ?_⟩⟩
      · rw [nM_lt h3 (by omega)] at h; omega
      · rw [ek, iN_one, iN_one, iN_one]
        refine ⟨fun q => ⟨⟨b20 hk20, h3⟩, ?_⟩, fun q => ?_⟩
        · have q := dnn q
          have e : sm (fun t => if fld (σ 324) t 0 / 8 = b then fJo (σ 324) t else 0) (k + 1) = sm (fun t => if fld (σ 324) t 0 / 8 = b then fJo (σ 324) t else 0) k + fJo (σ 324) k := congrArg (_ + ·) (if_pos q)
          rw [e, cnt_t (P := fun t => decide (fld (σ 324) t 0 / 8 = b)) (decide_eq_true q)] at ih
          refine ⟨fun q2 => ?_, fun q2 => ?_⟩
          · rw [cnt_f (fun z => q2 (of_decide_eq_true z).2)] at ih
            exact ih _
          · rw [cnt_t (decide_eq_true ⟨q, q2⟩)] at ih
            exact ih _
        · have q := bI_0.mp q
          rw [sm_z (g := fun t => if fld (σ 324) t 0 / 8 = b then fJo (σ 324) t else 0) (if_neg q), cnt_f (P := fun t => decide (fld (σ 324) t 0 / 8 = b)) (fun z => q (of_decide_eq_true z)), cnt_f (fun z => q (of_decide_eq_true z).1)] at ih
          exact ih _
  · rw [if_pos (dnn h)] at hK
    have nw : ∀ j : Int32, 0 ≤ j → j ≤ 3 → ¬ w = j := fun j a b z => bI_0.mp h2 (by rw [z]; exact ⟨a, b⟩)
    rw [if_neg (nw 0 (by decide) (by decide)), if_neg (nw 1 (by decide) (by decide)), if_neg (nw 2 (by decide) (by decide)), if_neg (nw 3 (by decide) (by decide))] at hK
    exact hK
noncomputable def f235 : gD := fun Lv σ => match Lv with
  | [some (.ref q0), some (.int b), some (.int w), none, none, none, none, none] => cond (Nat.beq q0 323) (some (some (RS σ), some (.int (aTb (σ 324) (fun f => iN (mem (σ 324) b f)) b w)), σ)) none
  | _ => none
theorem ok235 : gFok 235 f235 := by
  intro Lv σ q h hc K hK
  unfold f235 at h
  split at h
  · rename_i q0 b w
    obtain ⟨hb, h⟩ := c_no h
    have hb0 := hb
    have e0 := b_eq hb0
    subst e0
    cases h
    exact s235 (hc _ rfl) hK
  · cases h
set_option maxRecDepth 20000 in
theorem w129 {σ : gS} {K : gK} {x : Int32} (h : ((¬ x < 0 → (SC σ) ∧ K (some (.int (fRk (cR σ 6) x))) σ) ∧ (x < 0 → K (some (.int (-1))) σ))) : gE 129 0 [some (.ref 0), some (.int x)] [] σ K :=
  gw_run (cy := 129) (cuts := []) (inl := []) (pf := gpeh) gpeh_ok 400 (by decide) h
theorem s129 {σ : gS} {K : gK} {x : Int32} (hc : SC σ) (hK : K (some (.int (if x < 0 then -1 else fRk (cR σ 6) x))) σ) : gE 129 0 [some (.ref 0), some (.int x)] [] σ K := by
  refine w129 ⟨fun h => ⟨hc, ?_⟩, fun h => ?_⟩
  · rw [if_neg h] at hK; exact hK
  · rw [if_pos h] at hK; exact hK
noncomputable def f129 : gD := fun Lv σ => match Lv with
  | [some (.ref q0), some (.int x)] => cond (Nat.beq q0 0) (some (some (SC σ), some (.int (if x < 0 then -1 else fRk (cR σ 6) x)), σ)) none
  | _ => none
theorem ok129 : gFok 129 f129 := by
  intro Lv σ q h hc K hK
  unfold f129 at h
  split at h
  · rename_i q0 x
    obtain ⟨hb, h⟩ := c_no h
    have hb0 := hb
    have e0 := b_eq hb0
    subst e0
    cases h
    exact s129 (hc _ rfl) hK
  · cases h
set_option maxRecDepth 20000 in
theorem w140 {σ : gS} {K : gK} {i c : Int32} (h : ((i < 0 → K (some (.int (-1))) σ) ∧ (¬ i < 0 → ((¬ (bI ((0 : Int32) ≤ c ∧ c ≤ (2 : Int32))) = 0 → (bLg σ 30 ∧ 0 ≤ i ∧ (0 ≤ c ∧ c ≤ 2)) ∧ K (some (.int (if i < σ 30 2 then σ 31 (3 * (((σ 30 1).toNatClampNeg + i.toNatClampNeg) % 40) + c.toNatClampNeg) else -2))) σ) ∧ ((bI ((0 : Int32) ≤ c ∧ c ≤ (2 : Int32))) = 0 → K (some (.int (-1))) σ))))) : gE 140 0 [some (.ref 0), some (.int i), some (.int c)] [] σ K :=
  gw_run (cy := 140) (cuts := []) (inl := []) (pf := gpeh) gpeh_ok 400 (by decide) h
theorem s140 {σ : gS} {K : gK} {i c : Int32} (hc : SC σ) (hK : K (some (.int (if ¬ i < 0 ∧ (0 ≤ c ∧ c ≤ 2) then (if i < σ 30 2 then σ 31 (3 * (((σ 30 1).toNatClampNeg + i.toNatClampNeg) % 40) + c.toNatClampNeg) else -2) else -1))) σ) : gE 140 0 [some (.ref 0), some (.int i), some (.int c)] [] σ K := by
  obtain ⟨hT, hP, hL, h0⟩ := hc
  have h7 : 0 ≤ σ 6 7 ∧ σ 6 7 ≤ 20 := SC_7 ⟨hT, hP, hL, h0⟩
  refine w140 ⟨fun h => ?_, fun h => ⟨fun h2 => ⟨⟨hL, Int32.not_lt.mp h, dnn h2⟩, ?_⟩, fun h2 => ?_⟩⟩
  · rw [if_neg (fun z => z.1 h)] at hK; exact hK
  · rw [if_pos ⟨h, dnn h2⟩] at hK; exact hK
  · rw [if_neg (fun z => bI_0.mp h2 z.2)] at hK; exact hK
noncomputable def f140 : gD := fun Lv σ => match Lv with
  | [some (.ref q0), some (.int i), some (.int c)] => cond (Nat.beq q0 0) (some (some (SC σ), some (.int (if ¬ i < 0 ∧ (0 ≤ c ∧ c ≤ 2) then (if i < σ 30 2 then σ 31 (3 * (((σ 30 1).toNatClampNeg + i.toNatClampNeg) % 40) + c.toNatClampNeg) else -2) else -1)), σ)) none
  | _ => none
theorem ok140 : gFok 140 f140 := by
  intro Lv σ q h hc K hK
  unfold f140 at h
  split at h
  · rename_i q0 i c
    obtain ⟨hb, h⟩ := c_no h
    have hb0 := hb
    have e0 := b_eq hb0
    subst e0
    cases h
    exact s140 (hc _ rfl) hK
  · cases h
set_option maxRecDepth 20000 in
theorem w250 {σ : gS} {K : gK} {i c : Int32} (h : ((i < 0 → K (some (.int (-1))) σ) ∧ (¬ i < 0 → ((¬ (bI ((0 : Int32) ≤ c ∧ c ≤ (2 : Int32))) = 0 → (0 ≤ (209 : Int32) ∧ (209 : Int32) < 330) ∧ ((¬ i < (σ 324 209) → K (some (.int (-2))) σ) ∧ (i < (σ 324 209) → (0 ≤ ((210 + (3 * i)) + c) ∧ ((210 + (3 * i)) + c) < 330) ∧ K (some (.int (σ 324 ((210 + (3 * i)) + c).toNatClampNeg))) σ))) ∧ ((bI ((0 : Int32) ≤ c ∧ c ≤ (2 : Int32))) = 0 → K (some (.int (-1))) σ))))) : gE 250 0 [some (.ref 323), some (.int i), some (.int c)] [] σ K :=
  gw_run (cy := 250) (cuts := []) (inl := []) (pf := gpeh) gpeh_ok 400 (by decide) h
theorem s250 {σ : gS} {K : gK} {i c : Int32} (hc : RS σ) (hK : K (some (.int (if ¬ i < 0 ∧ (0 ≤ c ∧ c ≤ 2) then (if i < σ 324 209 then σ 324 (210 + 3 * i.toNatClampNeg + c.toNatClampNeg) else -2) else -1))) σ) : gE 250 0 [some (.ref 323), some (.int i), some (.int c)] [] σ K := by
  obtain ⟨⟨h3, h9⟩, hu⟩ := hc
  refine w250 ⟨fun h => ?_, fun h => ⟨fun h2 => ⟨by decide, fun h4 => ?_, fun h4 => ?_⟩, fun h2 => ?_⟩⟩
  · rw [if_neg (fun z => z.1 h)] at hK; exact hK
  · rw [if_pos ⟨h, dnn h2⟩, if_neg h4] at hK; exact hK
  · rw [if_pos ⟨h, dnn h2⟩, if_pos h4] at hK
    have hw := dnn h2
    obtain ⟨eI, lI⟩ := iN_of (Int32.not_lt.mp h)
    obtain ⟨eC, lC⟩ := iN_of hw.1
    obtain ⟨I, hI⟩ : ∃ I, i.toNatClampNeg = I := ⟨_, rfl⟩
    obtain ⟨C, hC⟩ : ∃ C, c.toNatClampNeg = C := ⟨_, rfl⟩
    rw [hI] at eI lI hK
    rw [hC] at eC lC hK
    have I40 : I < 40 := by
      have q2 : i < 40 := by
        have := h9.2
        grind
      rw [eI] at q2
      exact (iN_lt (m := 40) lI (by decide)).mp q2
    have C3 : C < 3 := by
      have := hw.2
      rw [eC] at this
      have := (iN_le (m := 2) lC (by decide)).mp this
      omega
    have key : (210 : Int32) + 3 * i + c = iN (210 + 3 * I + C) := by
      rw [eI, eC, show (3 : Int32) = iN 3 from rfl, iN_mul, show (210 : Int32) = iN 210 from rfl, iN_add, iN_add]
    rw [key, iN_nat (by omega)]
    exact ⟨i330 (by omega), hK⟩
  · rw [if_neg (fun z => bI_0.mp h2 z.2)] at hK; exact hK
noncomputable def f250 : gD := fun Lv σ => match Lv with
  | [some (.ref q0), some (.int i), some (.int c)] => cond (Nat.beq q0 323) (some (some (RS σ), some (.int (if ¬ i < 0 ∧ (0 ≤ c ∧ c ≤ 2) then (if i < σ 324 209 then σ 324 (210 + 3 * i.toNatClampNeg + c.toNatClampNeg) else -2) else -1)), σ)) none
  | _ => none
theorem ok250 : gFok 250 f250 := by
  intro Lv σ q h hc K hK
  unfold f250 at h
  split at h
  · rename_i q0 i c
    obtain ⟨hb, h⟩ := c_no h
    have hb0 := hb
    have e0 := b_eq hb0
    subst e0
    cases h
    exact s250 (hc _ rfl) hK
  · cases h
set_option maxRecDepth 20000 in
theorem w125 {σ : gS} {K : gK} {t i : Int32} (h : (((bI (isT (cR σ 6) t)) = 0 → K (some (.int (-1))) σ) ∧ (¬ (bI (isT (cR σ 6) t)) = 0 → ((¬ i < 0 → (0 ≤ t ∧ t < 20) ∧ gTv (6 + 2 + t.toNatClampNeg) ∧ (gTv (6 + 2 + t.toNatClampNeg)) ∧ ((¬ (if i < 5 then (σ (6 + 2 + t.toNatClampNeg) 0 >>> ((5 * i) &&& 31)) &&& 31 else 0) = 0 → K (some (.int (if i < 5 then (σ (6 + 2 + t.toNatClampNeg) 0 >>> ((5 * i) &&& 31)) &&& 31 else 0))) σ) ∧ ((if i < 5 then (σ (6 + 2 + t.toNatClampNeg) 0 >>> ((5 * i) &&& 31)) &&& 31 else 0) = 0 → K (some (.int (-2))) σ))) ∧ (i < 0 → K (some (.int (-1))) σ))))) : gE 125 0 [some (.ref 0), some (.int t), some (.int i), none] [] σ K :=
  gw_run (cy := 125) (cuts := []) (inl := []) (pf := gpeh) gpeh_ok 400 (by decide) h
theorem s125 {σ : gS} {K : gK} {t i : Int32} (hc : SC σ) (hK : K (some (.int (if isT (cR σ 6) t ∧ ¬ i < 0 then (if i < 5 ∧ ¬ (σ (8 + t.toNatClampNeg) 0 >>> ((5 * i) &&& 31)) &&& 31 = 0 then (σ (8 + t.toNatClampNeg) 0 >>> ((5 * i) &&& 31)) &&& 31 else -2) else -1))) σ) : gE 125 0 [some (.ref 0), some (.int t), some (.int i), none] [] σ K := by
  obtain ⟨hT, hP, hL, h0⟩ := hc
  have h7 : 0 ≤ σ 6 7 ∧ σ 6 7 ≤ 20 := SC_7 ⟨hT, hP, hL, h0⟩
  refine w125 ⟨fun h => ?_, fun h => ⟨fun h2 => ?_, fun h2 => ?_⟩⟩
  · rw [if_neg (fun z => bI_0.mp h z.1)] at hK; exact hK
  · have hp := isN_of hT.1 (dnn h)
    have lt := n20 hp.1
    have tv := tv_6 _ lt
    rw [if_pos ⟨dnn h, h2⟩] at hK
    refine ⟨hp.1, tv, tv, fun q => ?_, fun q => ?_⟩
    · by_cases q5 : i < 5
      · rw [if_pos q5] at q ⊢
        rw [if_pos ⟨q5, q⟩] at hK
        exact hK
      · rw [if_neg q5] at q
        exact absurd rfl q
    · by_cases q5 : i < 5
      · rw [if_pos q5] at q
        rw [if_neg (fun z => z.2 q)] at hK
        exact hK
      · rw [if_neg (fun z => q5 z.1)] at hK
        exact hK
  · rw [if_neg (fun z => z.2 h2)] at hK; exact hK
noncomputable def f125 : gD := fun Lv σ => match Lv with
  | [some (.ref q0), some (.int t), some (.int i), none] => cond (Nat.beq q0 0) (some (some (SC σ), some (.int (if isT (cR σ 6) t ∧ ¬ i < 0 then (if i < 5 ∧ ¬ (σ (8 + t.toNatClampNeg) 0 >>> ((5 * i) &&& 31)) &&& 31 = 0 then (σ (8 + t.toNatClampNeg) 0 >>> ((5 * i) &&& 31)) &&& 31 else -2) else -1)), σ)) none
  | _ => none
theorem ok125 : gFok 125 f125 := by
  intro Lv σ q h hc K hK
  unfold f125 at h
  split at h
  · rename_i q0 t i
    obtain ⟨hb, h⟩ := c_no h
    have hb0 := hb
    have e0 := b_eq hb0
    subst e0
    cases h
    exact s125 (hc _ rfl) hK
  · cases h
/-- names are names -/
noncomputable def nmG (R : gW) : Prop := ∀ t, t < nM R → 0 ≤ R (9 + 10 * t + 9) ∧ (1 ≤ nsz (R (9 + 10 * t + 9)) ∧ nsz (R (9 + 10 * t + 9)) ≤ 5)
set_option maxRecDepth 20000 in
theorem w230 {σ : gS} {K : gK} {t i : Int32} (h : (((bI (isT (σ 324) t)) = 0 → K (some (.int (-1))) σ) ∧ (¬ (bI (isT (σ 324) t)) = 0 → ((¬ i < 0 → (0 ≤ (9 + 10 * t + (9 : Int32)) ∧ (9 + 10 * t + (9 : Int32)) < 330) ∧ (0 ≤ (σ 324 (9 + 10 * t + (9 : Int32)).toNatClampNeg)) ∧ ((¬ i < (iN (nsz (σ 324 (9 + 10 * t + (9 : Int32)).toNatClampNeg))) → K (some (.int (-2))) σ) ∧ (i < (iN (nsz (σ 324 (9 + 10 * t + (9 : Int32)).toNatClampNeg))) → (0 ≤ (σ 324 (9 + 10 * t + (9 : Int32)).toNatClampNeg) ∧ (0 ≤ i ∧ i < 20)) ∧ K (some (.int (iN (lOf (σ 324 (9 + 10 * t + (9 : Int32)).toNatClampNeg) i.toNatClampNeg)))) σ))) ∧ (i < 0 → K (some (.int (-1))) σ))))) : gE 230 0 [some (.ref 323), some (.int t), some (.int i), none] [] σ K :=
  gw_run (cy := 230) (cuts := []) (inl := []) (pf := gpeh) gpeh_ok 400 (by decide) h
theorem s230 {σ : gS} {K : gK} {t i : Int32} (hc : RS σ ∧ nmG (σ 324)) (hK : K (some (.int (if isT (σ 324) t ∧ ¬ i < 0 then (if i < iN (nsz (σ 324 (9 + 10 * t.toNatClampNeg + 9))) then iN (lOf (σ 324 (9 + 10 * t.toNatClampNeg + 9)) i.toNatClampNeg) else -2) else -1))) σ) : gE 230 0 [some (.ref 323), some (.int t), some (.int i), none] [] σ K := by
  obtain ⟨hc, hn⟩ := hc
  obtain ⟨⟨h3, h9⟩, hu⟩ := hc
  refine w230 ⟨fun h => ?_, fun h => ⟨fun h2 => ?_, fun h2 => ?_⟩⟩
  · rw [if_neg (fun z => bI_0.mp h z.1)] at hK; exact hK
  · have ht := isT_of h3 (dnn h)
    have tn := isT_nn h3 (dnn h)
    rw [if_pos ⟨dnn h, h2⟩] at hK
    clear h
    obtain ⟨et, lt⟩ := t20 ht
    obtain ⟨m, hm⟩ : ∃ m, t.toNatClampNeg = m := ⟨_, rfl⟩
    rw [hm] at et lt hK tn
    subst et
    have nn := hn m tn
    refine ⟨ixb9 lt, ?_⟩
    rw [ix9 lt]
    refine ⟨nn.1, fun q => ?_, fun q => ⟨⟨nn.1, Int32.not_lt.mp h2, ?_⟩, ?_⟩⟩
    · rw [if_neg q] at hK; exact hK
    · have l5 : iN (nsz (σ 324 (9 + 10 * m + 9))) ≤ 5 := (iN_le (m := 5) (by omega) (by decide)).mpr nn.2.2
      grind
    · rw [if_pos q] at hK; exact hK
  · rw [if_neg (fun z => z.2 h2)] at hK; exact hK
noncomputable def f230 : gD := fun Lv σ => match Lv with
  | [some (.ref q0), some (.int t), some (.int i), none] => cond (Nat.beq q0 323) (some (some (RS σ ∧ nmG (σ 324)), some (.int (if isT (σ 324) t ∧ ¬ i < 0 then (if i < iN (nsz (σ 324 (9 + 10 * t.toNatClampNeg + 9))) then iN (lOf (σ 324 (9 + 10 * t.toNatClampNeg + 9)) i.toNatClampNeg) else -2) else -1)), σ)) none
  | _ => none
theorem ok230 : gFok 230 f230 := by
  intro Lv σ q h hc K hK
  unfold f230 at h
  split at h
  · rename_i q0 t i
    obtain ⟨hb, h⟩ := c_no h
    have hb0 := hb
    have e0 := b_eq hb0
    subst e0
    cases h
    exact s230 (hc _ rfl) hK
  · cases h
noncomputable def gpei_l : List (Nat × gD) := (123, f123) :: (227, f227) :: (124, f124) :: (229, f229) :: (127, f127) :: (128, f128) :: (238, f238) :: (235, f235) :: (129, f129) :: (140, f140) :: (250, f250) :: (125, f125) :: (230, f230) :: gpeh_l
noncomputable def gpei : gP := gpl0 gpei_l
theorem gpei_ok : gPok gpei := gpl0_cons ok123 (gpl0_cons ok227 (gpl0_cons ok124 (gpl0_cons ok229 (gpl0_cons ok127 (gpl0_cons ok128 (gpl0_cons ok238 (gpl0_cons ok235 (gpl0_cons ok129 (gpl0_cons ok140 (gpl0_cons ok250 (gpl0_cons ok125 (gpl0_cons ok230 (gpeh_ok)))))))))))))
end
section
-- text 106
/-! QUERIES: the best seat, a partner, rings -/
noncomputable def bcS (R : gW) (t s : Nat) (p : Int32 × Int32) : Int32 × Int32 := if fWhyM R t (iN s) = 0 ∧ (p.1 = -2 ∨ p.2 < fJoy R t (iN s)) then (iN s, fJoy R t (iN s)) else p
noncomputable def fBs (R : gW) (t : Nat) : Int32 := (nfold (bcS R t) (4 * (R 0).toNatClampNeg) (-2, 0)).1
noncomputable def brS (R : gW) (t s : Nat) (b : Int32) : Int32 := if 0 < fWhyM R t (iN s) then b else if b < 0 then iN s else if fJoy R t b < fJoy R t (iN s) then iN s else b
noncomputable def rBs (R : gW) (t : Nat) : Int32 := nfold (brS R t) (4 * (R 0).toNatClampNeg) (-2)
noncomputable def paS (R : gW) (a t : Nat) (p : Int32 × Int32) : Int32 × Int32 := if ¬ t = a ∧ fWhy R a t 0 = 0 ∧ p.2 < fRise R a t a then (iN t, fRise R a t a) else p
noncomputable def fPa (R : gW) (a : Nat) : Int32 := (nfold (paS R a) (nM R) (-2, 0)).1
noncomputable def rgC (R : gW) (a b j : Nat) (n : Nat) : Nat := if ¬ b = a + 1 + j ∧ fWhyR R a b (a + 1 + j) = 0 ∧ 0 < fROR R a b (a + 1 + j) then n + 1 else n
noncomputable def rgB (R : gW) (a i : Nat) (n : Nat) : Nat := nfold (rgC R a (a + 1 + i)) (nM R - (a + 1)) n
noncomputable def rgA (R : gW) (a : Nat) (n : Nat) : Nat := nfold (rgB R a) (nM R - (a + 1)) n
noncomputable def fRi (R : gW) : Int32 := iN (nfold (rgA R) (nM R) 0)
theorem row_n {R : gW} (h : 2 ≤ R 0 ∧ R 0 ≤ 10) : ∃ m, m ≤ 10 ∧ R 0 = iN m ∧ (R 0).toNatClampNeg = m := by
  obtain ⟨m, m1, m2, em, et⟩ := rw_n h
  exact ⟨m, m2, em, by rw [em, iN_nat (by omega)]⟩
set_option maxRecDepth 20000 in
theorem w96 {σ : gS} {K : gK} {t : Int32} (h : gE 96 8 [some (.ref 6), some (.int t), some (.int (-2)), some (.int 0), some (.int 0), none] [] σ K) : gE 96 0 [some (.ref 6), some (.int t), none, none, none, none] [] σ K :=
  gw_run (cy := 96) (cuts := [8]) (inl := []) (pf := gpei) gpei_ok 400 (by decide) h
set_option maxRecDepth 20000 in
theorem c96_8 {σ : gS} {K : gK} {l1 l2 l3 l4 : Int32} {l5 : Option Value} (h : ((¬ l4 < (σ 6 4 * 4) → K (some (.int l2)) σ) ∧ (l4 < (σ 6 4 * 4) → (isN σ 6 l1 ∧ (0 ≤ l4 ∧ l4 < 40) ∧ TC σ 6) ∧ ((¬ (fWhyM (cR σ 6) l1.toNatClampNeg l4) = 0 → gE 96 8 [some (.ref 6), some (.int l1), some (.int l2), some (.int l3), some (.int (l4 + 1)), l5] [] σ K) ∧ ((fWhyM (cR σ 6) l1.toNatClampNeg l4) = 0 → (((0 ≤ l1 ∧ l1 < 20) ∧ l1.toNatClampNeg < nM (cR σ 6)) ∧ (0 ≤ l4 ∧ l4 < 40) ∧ TC σ 6) ∧ ((l2 = (-2) → gE 96 8 [some (.ref 6), some (.int l1), some (.int l4), some (.int (fJoy (cR σ 6) l1.toNatClampNeg l4)), some (.int (l4 + 1)), some (.int (fJoy (cR σ 6) l1.toNatClampNeg l4))] [] σ K) ∧ (¬ l2 = (-2) → ((¬ l3 < (fJoy (cR σ 6) l1.toNatClampNeg l4) → gE 96 8 [some (.ref 6), some (.int l1), some (.int l2), some (.int l3), some (.int (l4 + 1)), some (.int (fJoy (cR σ 6) l1.toNatClampNeg l4))] [] σ K) ∧ (l3 < (fJoy (cR σ 6) l1.toNatClampNeg l4) → gE 96 8 [some (.ref 6), some (.int l1), some (.int l4), some (.int (fJoy (cR σ 6) l1.toNatClampNeg l4)), some (.int (l4 + 1)), some (.int (fJoy (cR σ 6) l1.toNatClampNeg l4))] [] σ K))))))))) : gE 96 8 [some (.ref 6), some (.int l1), some (.int l2), some (.int l3), some (.int l4), l5] [] σ K :=
  gw_run (cy := 96) (cuts := [8]) (inl := []) (pf := gpei) gpei_ok 400 (by decide) h
theorem s96 {σ : gS} {K : gK} {t : Int32} (hc : SC σ ∧ isN σ 6 t) (hK : K (some (.int (fBs (cR σ 6) t.toNatClampNeg))) σ) : gE 96 0 [some (.ref 6), some (.int t), none, none, none, none] [] σ K := by
  obtain ⟨hc, ht⟩ := hc
  obtain ⟨hT, hP, hL, h0⟩ := hc
  have h7 : 0 ≤ σ 6 7 ∧ σ 6 7 ≤ 20 := SC_7 ⟨hT, hP, hL, h0⟩
  obtain ⟨et, lt⟩ := t20 ht.1
  have ht2 := ht.2
  have ht1 := ht.1
  obtain ⟨m, hm⟩ : ∃ m, t.toNatClampNeg = m := ⟨_, rfl⟩
  rw [hm] at et lt hK ht2
  subst et
  have em : (iN m).toNatClampNeg = m := iN_nat (by omega)
  obtain ⟨N, hN, eN, nN⟩ := row_n h0
  have e4 : σ 6 4 * 4 = iN (4 * N) := by
    rw [show σ 6 4 = cR σ 6 0 from rfl, eN, show (4 : Int32) = iN 4 from rfl, iN_mul, Nat.mul_comm]
  have hb : ∀ k, k < 4 * N → 0 ≤ iN k ∧ iN k < 40 := fun k hk => ⟨(iN_le (k := 0) (by decide) (by omega)).mpr (by omega), (iN_lt (m := 40) (by omega) (by decide)).mpr (by omega)⟩
  have nm : isN σ 6 (iN m) := ⟨ht1, by rw [em]; exact ht2⟩
  unfold fBs at hK
  rw [nN] at hK
  refine w96 ?_
  refine g_forJ (4 * N) (fun k u => [some (.ref 6), some (.int (iN m)), some (.int (nfold (bcS (cR σ 6) m) k (-2, 0)).1), some (.int (nfold (bcS (cR σ 6) m) k (-2, 0)).2), some (.int (iN k)), u]) (fun _ => σ) (fun _ => True) (fun _ u => ?_) (fun k hk _ ih u => ?_) 0 (Nat.zero_le _) trivial none
  · refine c96_8 ?_
    rw [e4]
    exact ⟨fun _ => hK, fun z => absurd ((iN_lt (by omega) (by omega)).mp z) (Nat.lt_irrefl _)⟩
  · have ih := ih trivial
    have e : nfold (bcS (cR σ 6) m) (k + 1) (-2, 0) = bcS (cR σ 6) m k (nfold (bcS (cR σ 6) m) k (-2, 0)) := rfl
    rw [e] at ih
    generalize nfold (bcS (cR σ 6) m) k (-2, 0) = p at ih ⊢
    unfold bcS at ih
    refine c96_8 ?_
    rw [e4, em, iN_one]
    refine ⟨fun z => absurd ((iN_lt (by omega) (by omega)).mpr hk) z, fun _ => ⟨⟨nm, hb k hk, hT⟩, fun q => ?_, fun q => ⟨⟨⟨ht1, ht2⟩, hb k hk, hT⟩, fun q2 => ?_, fun q2 => ⟨fun q3 => ?_, fun q3 => ?_⟩⟩⟩⟩
    · rw [if_neg (fun z => q z.1)] at ih
      exact ih _
    · rw [if_pos ⟨q, Or.inl q2⟩] at ih
      exact ih _
    · rw [if_neg (fun z => z.2.elim q2 q3)] at ih
      exact ih _
    · rw [if_pos ⟨q, Or.inr q3⟩] at ih
      exact ih _
noncomputable def f96 : gD := fun Lv σ => match Lv with
  | [some (.ref q0), some (.int t), none, none, none, none] => cond (Nat.beq q0 6) (some (some (SC σ ∧ isN σ 6 t), some (.int (fBs (cR σ 6) t.toNatClampNeg)), σ)) none
  | _ => none
theorem ok96 : gFok 96 f96 := by
  intro Lv σ q h hc K hK
  unfold f96 at h
  split at h
  · rename_i q0 t
    obtain ⟨hb, h⟩ := c_no h
    have hb0 := hb
    have e0 := b_eq hb0
    subst e0
    cases h
    exact s96 (hc _ rfl) hK
  · cases h
set_option maxRecDepth 20000 in
theorem w245 {σ : gS} {K : gK} {t : Int32} (h : ((¬ (bI (isT (σ 324) t)) = 0 → gE 245 15 [some (.ref 323), some (.int t), some (.int (-2)), some (.int 0)] [] σ K) ∧ ((bI (isT (σ 324) t)) = 0 → K (some (.int (-1))) σ))) : gE 245 0 [some (.ref 323), some (.int t), none, none] [] σ K :=
  gw_run (cy := 245) (cuts := [15]) (inl := []) (pf := gpei) gpei_ok 400 (by decide) h
set_option maxRecDepth 20000 in
theorem c245_15 {σ : gS} {K : gK} {l1 l2 l3 : Int32} (h : (0 ≤ (0 : Int32) ∧ (0 : Int32) < 330) ∧ ((¬ l3 < (4 * (σ 324 0)) → K (some (.int l2)) σ) ∧ (l3 < (4 * (σ 324 0)) → ((0 ≤ l1 ∧ l1 < 20) ∧ 0 ≤ σ 324 3 ∧ σ 324 3 ≤ 20) ∧ ((¬ 0 < (fWhyM (σ 324) l1.toNatClampNeg l3) → ((l2 < 0 → gE 245 15 [some (.ref 323), some (.int l1), some (.int l3), some (.int (l3 + 1))] [] σ K) ∧ (¬ l2 < 0 → ((0 ≤ l1 ∧ l1 < 20) ∧ 0 ≤ σ 324 3 ∧ σ 324 3 ≤ 20) ∧ ((0 ≤ l1 ∧ l1 < 20) ∧ 0 ≤ σ 324 3 ∧ σ 324 3 ≤ 20) ∧ ((¬ (fJoy (σ 324) l1.toNatClampNeg l2) < (fJoy (σ 324) l1.toNatClampNeg l3) → gE 245 15 [some (.ref 323), some (.int l1), some (.int l2), some (.int (l3 + 1))] [] σ K) ∧ ((fJoy (σ 324) l1.toNatClampNeg l2) < (fJoy (σ 324) l1.toNatClampNeg l3) → gE 245 15 [some (.ref 323), some (.int l1), some (.int l3), some (.int (l3 + 1))] [] σ K))))) ∧ (0 < (fWhyM (σ 324) l1.toNatClampNeg l3) → gE 245 15 [some (.ref 323), some (.int l1), some (.int l2), some (.int (l3 + 1))] [] σ K))))) : gE 245 15 [some (.ref 323), some (.int l1), some (.int l2), some (.int l3)] [] σ K :=
  gw_run (cy := 245) (cuts := [15]) (inl := []) (pf := gpei) gpei_ok 400 (by decide) h
theorem s245 {σ : gS} {K : gK} {t : Int32} (hc : RS σ ∧ (2 ≤ σ 324 0 ∧ σ 324 0 ≤ 10)) (hK : K (some (.int (if isT (σ 324) t then rBs (σ 324) t.toNatClampNeg else -1))) σ) : gE 245 0 [some (.ref 323), some (.int t), none, none] [] σ K := by
  obtain ⟨hc, h0⟩ := hc
  obtain ⟨⟨h3, h9⟩, hu⟩ := hc
  refine w245 ⟨fun h => ?_, fun h => ?_⟩
  · rw [if_pos (dnn h)] at hK
    have ht1 := isT_of h3 (dnn h)
    clear h
    obtain ⟨et, lt⟩ := t20 ht1
    obtain ⟨m, hm⟩ : ∃ m, t.toNatClampNeg = m := ⟨_, rfl⟩
    rw [hm] at et lt hK
    subst et
    have em : (iN m).toNatClampNeg = m := iN_nat (by omega)
    obtain ⟨N, hN, eN, nN⟩ := row_n h0
    have e4 : 4 * σ 324 0 = iN (4 * N) := by
      rw [eN, show (4 : Int32) = iN 4 from rfl, iN_mul]
    unfold rBs at hK
    rw [nN] at hK
    refine g_forI (4 * N) (fun k => [some (.ref 323), some (.int (iN m)), some (.int (nfold (brS (σ 324) m) k (-2))), some (.int (iN k))]) (fun _ => σ) (fun _ => True) (fun _ => ?_) (fun k hk _ ih => ?_) 0 (Nat.zero_le _) trivial
    · refine c245_15 ?_
      rw [e4]
      exact ⟨by decide, fun _ => hK, fun z => absurd ((iN_lt (by omega) (by omega)).mp z) (Nat.lt_irrefl _)⟩
    · have ih := ih trivial
      have e : nfold (brS (σ 324) m) (k + 1) (-2) = brS (σ 324) m k (nfold (brS (σ 324) m) k (-2)) := rfl
      rw [e] at ih
      generalize nfold (brS (σ 324) m) k (-2) = p at ih ⊢
      unfold brS at ih
      refine c245_15 ?_
      rw [e4, em, iN_one]
      refine ⟨by decide, fun z => absurd ((iN_lt (by omega) (by omega)).mpr hk) z, fun _ => ⟨⟨ht1, h3⟩, fun q => ⟨fun q2 => ?_, fun q2 => ⟨⟨ht1, h3⟩, ⟨ht1, h3⟩, fun q3 => ?_, fun q3 => ?_⟩⟩, fun q => ?_⟩⟩
      · rw [if_neg q, if_pos q2] at ih
        exact ih
      · rw [if_neg q, if_neg q2, if_neg q3] at ih
        exact ih
      · rw [if_neg q, if_neg q2, if_pos q3] at ih
        exact ih
      · rw [if_pos q] at ih
        exact ih
  · rw [if_neg (bI_0.mp h)] at hK; exact hK
noncomputable def f245 : gD := fun Lv σ => match Lv with
  | [some (.ref q0), some (.int t), none, none] => cond (Nat.beq q0 323) (some (some (RS σ ∧ (2 ≤ σ 324 0 ∧ σ 324 0 ≤ 10)), some (.int (if isT (σ 324) t then rBs (σ 324) t.toNatClampNeg else -1)), σ)) none
  | _ => none
theorem ok245 : gFok 245 f245 := by
  intro Lv σ q h hc K hK
  unfold f245 at h
  split at h
  · rename_i q0 t
    obtain ⟨hb, h⟩ := c_no h
    have hb0 := hb
    have e0 := b_eq hb0
    subst e0
    cases h
    exact s245 (hc _ rfl) hK
  · cases h
set_option maxRecDepth 20000 in
theorem w97 {σ : gS} {K : gK} {a : Int32} (h : gE 97 8 [some (.ref 6), some (.int a), some (.int (-2)), some (.int 0), some (.int 0), none] [] σ K) : gE 97 0 [some (.ref 6), some (.int a), none, none, none, none] [] σ K :=
  gw_run (cy := 97) (cuts := [8]) (inl := []) (pf := gpei) gpei_ok 400 (by decide) h
set_option maxRecDepth 20000 in
theorem c97_8 {σ : gS} {K : gK} {l1 l2 l3 l4 : Int32} {l5 : Option Value} (h : ((¬ l4 < (σ 6 7) → K (some (.int l2)) σ) ∧ (l4 < (σ 6 7) → ((l4 = l1 → gE 97 8 [some (.ref 6), some (.int l1), some (.int l2), some (.int l3), some (.int (l4 + 1)), l5] [] σ K) ∧ (¬ l4 = l1 → (isN σ 6 l1 ∧ isN σ 6 l4 ∧ TC σ 6) ∧ ((¬ (fWhy (cR σ 6) l1.toNatClampNeg l4.toNatClampNeg (0 : Int32)) = 0 → gE 97 8 [some (.ref 6), some (.int l1), some (.int l2), some (.int l3), some (.int (l4 + 1)), l5] [] σ K) ∧ ((fWhy (cR σ 6) l1.toNatClampNeg l4.toNatClampNeg (0 : Int32)) = 0 → (isN σ 6 l1 ∧ isN σ 6 l4 ∧ TC σ 6) ∧ ((¬ l3 < (fRise (cR σ 6) l1.toNatClampNeg l4.toNatClampNeg l1.toNatClampNeg) → gE 97 8 [some (.ref 6), some (.int l1), some (.int l2), some (.int l3), some (.int (l4 + 1)), some (.int (fRise (cR σ 6) l1.toNatClampNeg l4.toNatClampNeg l1.toNatClampNeg))] [] σ K) ∧ (l3 < (fRise (cR σ 6) l1.toNatClampNeg l4.toNatClampNeg l1.toNatClampNeg) → gE 97 8 [some (.ref 6), some (.int l1), some (.int l4), some (.int (fRise (cR σ 6) l1.toNatClampNeg l4.toNatClampNeg l1.toNatClampNeg)), some (.int (l4 + 1)), some (.int (fRise (cR σ 6) l1.toNatClampNeg l4.toNatClampNeg l1.toNatClampNeg))] [] σ K))))))))) : gE 97 8 [some (.ref 6), some (.int l1), some (.int l2), some (.int l3), some (.int l4), l5] [] σ K :=
  gw_run (cy := 97) (cuts := [8]) (inl := []) (pf := gpei) gpei_ok 400 (by decide) h
theorem s97 {σ : gS} {K : gK} {a : Int32} (hc : SC σ ∧ isN σ 6 a) (hK : K (some (.int (fPa (cR σ 6) a.toNatClampNeg))) σ) : gE 97 0 [some (.ref 6), some (.int a), none, none, none, none] [] σ K := by
  obtain ⟨hc, ht⟩ := hc
  obtain ⟨hT, hP, hL, h0⟩ := hc
  have h7 : 0 ≤ σ 6 7 ∧ σ 6 7 ≤ 20 := SC_7 ⟨hT, hP, hL, h0⟩
  obtain ⟨et, lt⟩ := t20 ht.1
  have ht2 := ht.2
  have ht1 := ht.1
  obtain ⟨m, hm⟩ : ∃ m, a.toNatClampNeg = m := ⟨_, rfl⟩
  rw [hm] at et lt hK ht2
  subst et
  have em : (iN m).toNatClampNeg = m := iN_nat (by omega)
  have hc3 := hT.1
  have nm : isN σ 6 (iN m) := ⟨ht1, by rw [em]; exact ht2⟩
  unfold fPa at hK
  refine w97 ?_
  refine g_forJ (nM (cR σ 6)) (fun k u => [some (.ref 6), some (.int (iN m)), some (.int (nfold (paS (cR σ 6) m) k (-2, 0)).1), some (.int (nfold (paS (cR σ 6) m) k (-2, 0)).2), some (.int (iN k)), u]) (fun _ => σ) (fun _ => True) (fun _ u => ?_) (fun k hk _ ih u => ?_) 0 (Nat.zero_le _) trivial none
  · have hn := (nM_of hc3).2
    refine c97_8 ⟨fun _ => hK, fun h => ?_⟩
    rw [← cR_3 σ 6, nM_lt hc3 (by omega)] at h; omega
  · have hn := (nM_of hc3).2
    have hk20 : k < 20 := by omega
    have ek : (iN k).toNatClampNeg = k := iN_nat (by omega)
    have nk : isN σ 6 (iN k) := ⟨b20 hk20, by rw [ek]; exact hk⟩
    have ih := ih trivial
    have e : nfold (paS (cR σ 6) m) (k + 1) (-2, 0) = paS (cR σ 6) m k (nfold (paS (cR σ 6) m) k (-2, 0)) := rfl
    rw [e] at ih
    generalize nfold (paS (cR σ 6) m) k (-2, 0) = p at ih ⊢
    unfold paS at ih
    refine c97_8 ?_
    rw [em, ek, iN_one, iN_inj (by omega) (by omega)]
    refine ⟨fun h => ?_, fun _ => ⟨fun q => ?_, fun q => ⟨⟨nm, nk, hT⟩, fun q2 => ?_, fun q2 => ⟨⟨nm, nk, hT⟩, fun q3 => ?_, fun q3 => ?_⟩⟩⟩⟩
    · rw [← cR_3 σ 6, nM_lt hc3 (by omega)] at h; omega
    · rw [if_neg (fun z => z.1 q)] at ih
      exact ih _
    · rw [if_neg (fun z => q2 z.2.1)] at ih
      exact ih _
    · rw [if_neg (fun z => q3 z.2.2)] at ih
      exact ih _
    · rw [if_pos ⟨q, q2, q3⟩] at ih
      exact ih _
noncomputable def f97 : gD := fun Lv σ => match Lv with
  | [some (.ref q0), some (.int a), none, none, none, none] => cond (Nat.beq q0 6) (some (some (SC σ ∧ isN σ 6 a), some (.int (fPa (cR σ 6) a.toNatClampNeg)), σ)) none
  | _ => none
theorem ok97 : gFok 97 f97 := by
  intro Lv σ q h hc K hK
  unfold f97 at h
  split at h
  · rename_i q0 a
    obtain ⟨hb, h⟩ := c_no h
    have hb0 := hb
    have e0 := b_eq hb0
    subst e0
    cases h
    exact s97 (hc _ rfl) hK
  · cases h
set_option maxRecDepth 20000 in
theorem w246 {σ : gS} {K : gK} {a : Int32} (h : ((¬ (bI (isT (σ 324) a)) = 0 → gE 246 18 [some (.ref 323), some (.int a), some (.int (-2)), some (.int 0), some (.int 0), none] [] σ K) ∧ ((bI (isT (σ 324) a)) = 0 → K (some (.int (-1))) σ))) : gE 246 0 [some (.ref 323), some (.int a), none, none, none, none] [] σ K :=
  gw_run (cy := 246) (cuts := [18]) (inl := []) (pf := gpei) gpei_ok 400 (by decide) h
set_option maxRecDepth 20000 in
theorem c246_18 {σ : gS} {K : gK} {l1 l2 l3 l4 : Int32} {l5 : Option Value} (h : (0 ≤ (3 : Int32) ∧ (3 : Int32) < 330) ∧ ((¬ l4 < (σ 324 3) → K (some (.int l2)) σ) ∧ (l4 < (σ 324 3) → ((l4 = l1 → gE 246 18 [some (.ref 323), some (.int l1), some (.int l2), some (.int l3), some (.int (l4 + 1)), l5] [] σ K) ∧ (¬ l4 = l1 → (((0 ≤ l1 ∧ l1 < 20) ∧ (0 ≤ l4 ∧ l4 < 20)) ∧ 0 ≤ σ 324 3 ∧ σ 324 3 ≤ 20) ∧ ((¬ 0 < (fWhy (σ 324) l1.toNatClampNeg l4.toNatClampNeg (0 : Int32)) → (((0 ≤ l1 ∧ l1 < 20) ∧ (0 ≤ l4 ∧ l4 < 20)) ∧ (0 ≤ l1 ∧ l1 < 20) ∧ 0 ≤ σ 324 3 ∧ σ 324 3 ≤ 20) ∧ ((l3 < (fRise (σ 324) l1.toNatClampNeg l4.toNatClampNeg l1.toNatClampNeg) → gE 246 18 [some (.ref 323), some (.int l1), some (.int l4), some (.int (fRise (σ 324) l1.toNatClampNeg l4.toNatClampNeg l1.toNatClampNeg)), some (.int (l4 + 1)), some (.int (fRise (σ 324) l1.toNatClampNeg l4.toNatClampNeg l1.toNatClampNeg))] [] σ K) ∧ (¬ l3 < (fRise (σ 324) l1.toNatClampNeg l4.toNatClampNeg l1.toNatClampNeg) → gE 246 18 [some (.ref 323), some (.int l1), some (.int l2), some (.int l3), some (.int (l4 + 1)), some (.int (fRise (σ 324) l1.toNatClampNeg l4.toNatClampNeg l1.toNatClampNeg))] [] σ K))) ∧ (0 < (fWhy (σ 324) l1.toNatClampNeg l4.toNatClampNeg (0 : Int32)) → gE 246 18 [some (.ref 323), some (.int l1), some (.int l2), some (.int l3), some (.int (l4 + 1)), l5] [] σ K))))))) : gE 246 18 [some (.ref 323), some (.int l1), some (.int l2), some (.int l3), some (.int l4), l5] [] σ K :=
  gw_run (cy := 246) (cuts := [18]) (inl := []) (pf := gpei) gpei_ok 400 (by decide) h
theorem s246 {σ : gS} {K : gK} {a : Int32} (hc : RS σ) (hK : K (some (.int (if isT (σ 324) a then fPa (σ 324) a.toNatClampNeg else -1))) σ) : gE 246 0 [some (.ref 323), some (.int a), none, none, none, none] [] σ K := by
  obtain ⟨⟨h3, h9⟩, hu⟩ := hc
  refine w246 ⟨fun h => ?_, fun h => ?_⟩
  · rw [if_pos (dnn h)] at hK
    have ht1 := isT_of h3 (dnn h)
    clear h
    obtain ⟨et, lt⟩ := t20 ht1
    obtain ⟨m, hm⟩ : ∃ m, a.toNatClampNeg = m := ⟨_, rfl⟩
    rw [hm] at et lt hK
    subst et
    have em : (iN m).toNatClampNeg = m := iN_nat (by omega)
    unfold fPa at hK
    refine g_forJ (nM (σ 324)) (fun k u => [some (.ref 323), some (.int (iN m)), some (.int (nfold (paS (σ 324) m) k (-2, 0)).1), some (.int (nfold (paS (σ 324) m) k (-2, 0)).2), some (.int (iN k)), u]) (fun _ => σ) (fun _ => True) (fun _ u => ?_) (fun k hk _ ih u => ?_) 0 (Nat.zero_le _) trivial none
    · have hn := (nM_of h3).2
      refine c246_18 ⟨by decide, fun _ => hK, fun h => ?_⟩
      rw [nM_lt h3 (by omega)] at h; omega
    · have hn := (nM_of h3).2
      have hk20 : k < 20 := by omega
      have ek : (iN k).toNatClampNeg = k := iN_nat (by omega)
      have ih := ih trivial
      have e : nfold (paS (σ 324) m) (k + 1) (-2, 0) = paS (σ 324) m k (nfold (paS (σ 324) m) k (-2, 0)) := rfl
      rw [e] at ih
      generalize nfold (paS (σ 324) m) k (-2, 0) = p at ih ⊢
      unfold paS at ih
      have hz := fWhy_c (R := σ 324) (a := m) (b := k) (x := 0)
      refine c246_18 ?_
      rw [em, ek, iN_one, iN_inj (by omega) (by omega)]
      refine ⟨by decide, fun h => ?_, fun _ => ⟨fun q => ?_, fun q => ⟨⟨⟨ht1, b20 hk20⟩, h3⟩, fun q2 => ⟨⟨⟨ht1, b20 hk20⟩, ht1, h3⟩, fun q3 => ?_, fun q3 => ?_⟩, fun q2 => ?_⟩⟩⟩
      · rw [nM_lt h3 (by omega)] at h; omega
      · rw [if_neg (fun z => z.1 q)] at ih
        exact ih _
      · rw [if_pos ⟨q, hz.resolve_right q2, q3⟩] at ih
        exact ih _
      · rw [if_neg (fun z => q3 z.2.2)] at ih
        exact ih _
      · rw [if_neg (fun z => by have z2 := z.2.1; rw [z2] at q2; exact absurd q2 (by decide))] at ih
        exact ih _
  · rw [if_neg (bI_0.mp h)] at hK; exact hK
noncomputable def f246 : gD := fun Lv σ => match Lv with
  | [some (.ref q0), some (.int a), none, none, none, none] => cond (Nat.beq q0 323) (some (some (RS σ), some (.int (if isT (σ 324) a then fPa (σ 324) a.toNatClampNeg else -1)), σ)) none
  | _ => none
theorem ok246 : gFok 246 f246 := by
  intro Lv σ q h hc K hK
  unfold f246 at h
  split at h
  · rename_i q0 a
    obtain ⟨hb, h⟩ := c_no h
    have hb0 := hb
    have e0 := b_eq hb0
    subst e0
    cases h
    exact s246 (hc _ rfl) hK
  · cases h
set_option maxRecDepth 20000 in
theorem w95 {σ : gS} {K : gK} (h : gE 95 4 [some (.ref 6), some (.int 0), some (.int 0), none, none] [] σ K) : gE 95 0 [some (.ref 6), none, none, none, none] [] σ K :=
  gw_run (cy := 95) (cuts := [4, 16, 29]) (inl := []) (pf := gpei) gpei_ok 400 (by decide) h
set_option maxRecDepth 20000 in
theorem c95_4 {σ : gS} {K : gK} {l1 l2 : Int32} {l3 l4 : Option Value} (h : ((¬ l2 < (σ 6 7) → K (some (.int l1)) σ) ∧ (l2 < (σ 6 7) → gE 95 16 [some (.ref 6), some (.int l1), some (.int l2), some (.int (l2 + 1)), l4] [] σ K))) : gE 95 4 [some (.ref 6), some (.int l1), some (.int l2), l3, l4] [] σ K :=
  gw_run (cy := 95) (cuts := [4, 16, 29]) (inl := []) (pf := gpei) gpei_ok 400 (by decide) h
set_option maxRecDepth 20000 in
theorem c95_16 {σ : gS} {K : gK} {l1 l2 l3 : Int32} {l4 : Option Value} (h : ((¬ l3 < (σ 6 7) → gE 95 4 [some (.ref 6), some (.int l1), some (.int (l2 + 1)), some (.int l3), l4] [] σ K) ∧ (l3 < (σ 6 7) → gE 95 29 [some (.ref 6), some (.int l1), some (.int l2), some (.int l3), some (.int (l2 + 1))] [] σ K))) : gE 95 16 [some (.ref 6), some (.int l1), some (.int l2), some (.int l3), l4] [] σ K :=
  gw_run (cy := 95) (cuts := [4, 16, 29]) (inl := []) (pf := gpei) gpei_ok 400 (by decide) h
set_option maxRecDepth 20000 in
theorem c95_29 {σ : gS} {K : gK} {l1 l2 l3 l4 : Int32} (h : ((¬ l4 < (σ 6 7) → gE 95 16 [some (.ref 6), some (.int l1), some (.int l2), some (.int (l3 + 1)), some (.int l4)] [] σ K) ∧ (l4 < (σ 6 7) → ((l3 = l4 → gE 95 29 [some (.ref 6), some (.int l1), some (.int l2), some (.int l3), some (.int (l4 + 1))] [] σ K) ∧ (¬ l3 = l4 → ((isN σ 6 l2 ∧ isN σ 6 l3 ∧ isN σ 6 l4) ∧ (l2.toNatClampNeg ≠ l3.toNatClampNeg ∧ l3.toNatClampNeg ≠ l4.toNatClampNeg ∧ l2.toNatClampNeg ≠ l4.toNatClampNeg) ∧ TC σ 6 ∧ bF (cR σ 6)) ∧ ((¬ (fWhyR (cR σ 6) l2.toNatClampNeg l3.toNatClampNeg l4.toNatClampNeg) = 0 → gE 95 29 [some (.ref 6), some (.int l1), some (.int l2), some (.int l3), some (.int (l4 + 1))] [] σ K) ∧ ((fWhyR (cR σ 6) l2.toNatClampNeg l3.toNatClampNeg l4.toNatClampNeg) = 0 → ((isN σ 6 l2 ∧ isN σ 6 l3 ∧ isN σ 6 l4) ∧ (l2.toNatClampNeg ≠ l3.toNatClampNeg ∧ l3.toNatClampNeg ≠ l4.toNatClampNeg ∧ l2.toNatClampNeg ≠ l4.toNatClampNeg) ∧ TC σ 6) ∧ ((¬ 0 < (fROR (cR σ 6) l2.toNatClampNeg l3.toNatClampNeg l4.toNatClampNeg) → gE 95 29 [some (.ref 6), some (.int l1), some (.int l2), some (.int l3), some (.int (l4 + 1))] [] σ K) ∧ (0 < (fROR (cR σ 6) l2.toNatClampNeg l3.toNatClampNeg l4.toNatClampNeg) → gE 95 29 [some (.ref 6), some (.int (l1 + 1)), some (.int l2), some (.int l3), some (.int (l4 + 1))] [] σ K))))))))) : gE 95 29 [some (.ref 6), some (.int l1), some (.int l2), some (.int l3), some (.int l4)] [] σ K :=
  gw_run (cy := 95) (cuts := [4, 16, 29]) (inl := []) (pf := gpei) gpei_ok 400 (by decide) h
theorem s95 {σ : gS} {K : gK} (hc : SC σ ∧ bF (cR σ 6)) (hK : K (some (.int (fRi (cR σ 6)))) σ) : gE 95 0 [some (.ref 6), none, none, none, none] [] σ K := by
  obtain ⟨hc, hF⟩ := hc
  obtain ⟨hT, hP, hL, h0⟩ := hc
  have h7 : 0 ≤ σ 6 7 ∧ σ 6 7 ≤ 20 := SC_7 ⟨hT, hP, hL, h0⟩
  have hc3 := hT.1
  have hn := (nM_of hc3).2
  have inN : ∀ k, k < nM (cR σ 6) → isN σ 6 (iN k) := fun k hk => ⟨b20 (by omega), by rw [iN_nat (by omega)]; exact hk⟩
  have inner : ∀ (a i n : Nat), a < nM (cR σ 6) → i < nM (cR σ 6) - (a + 1) → gE 95 16 [some (.ref 6), some (.int (iN (rgB (cR σ 6) a i n))), some (.int (iN a)), some (.int (iN (a + 1 + (i + 1)))), some (.int (iN (a + 1 + (nM (cR σ 6) - (a + 1)))))] [] σ K → gE 95 29 [some (.ref 6), some (.int (iN n)), some (.int (iN a)), some (.int (iN (a + 1 + i))), some (.int (iN (a + 1)))] [] σ K := by
    intro a i n ha hi hout
    refine g_forI (nM (cR σ 6) - (a + 1)) (fun k => [some (.ref 6), some (.int (iN (nfold (rgC (cR σ 6) a (a + 1 + i)) k n))), some (.int (iN a)), some (.int (iN (a + 1 + i))), some (.int (iN (a + 1 + k)))]) (fun _ => σ) (fun _ => True) (fun _ => ?_) (fun k hk _ ih => ?_) 0 (Nat.zero_le _) trivial
    · refine c95_29 ⟨fun _ => ?_, fun h => ?_⟩
      · rw [iN_one]
        exact hout
      · rw [← cR_3 σ 6, nM_lt hc3 (by omega)] at h; omega
    · have ih := ih trivial
      have e : nfold (rgC (cR σ 6) a (a + 1 + i)) (k + 1) n = rgC (cR σ 6) a (a + 1 + i) k (nfold (rgC (cR σ 6) a (a + 1 + i)) k n) := rfl
      rw [e] at ih
      generalize nfold (rgC (cR σ 6) a (a + 1 + i)) k n = n at ih ⊢
      unfold rgC at ih
      have na : (iN a).toNatClampNeg = a := iN_nat (by omega)
      have nb : (iN (a + 1 + i)).toNatClampNeg = a + 1 + i := iN_nat (by omega)
      have nc : (iN (a + 1 + k)).toNatClampNeg = a + 1 + k := iN_nat (by omega)
      refine c95_29 ⟨fun h => ?_, fun _ => ⟨fun q => ?_, fun q => ?_⟩⟩
      · rw [← cR_3 σ 6, nM_lt hc3 (by omega)] at h; omega
      · have q := (iN_inj (by omega) (by omega)).mp q
        rw [if_neg (fun z => z.1 q)] at ih
        rw [iN_one]
        exact ih
      · have q : ¬ a + 1 + i = a + 1 + k := fun z => q (by rw [z])
        refine ⟨⟨⟨inN a ha, inN (a + 1 + i) (by omega), inN (a + 1 + k) (by omega)⟩, ⟨by rw [na, nb]; omega, by rw [nb, nc]; omega, by rw [na, nc]; omega⟩, hT, hF⟩, fun q2 => ?_, fun q2 => ⟨⟨⟨inN a ha, inN (a + 1 + i) (by omega), inN (a + 1 + k) (by omega)⟩, ⟨by rw [na, nb]; omega, by rw [nb, nc]; omega, by rw [na, nc]; omega⟩, hT⟩, fun q3 => ?_, fun q3 => ?_⟩⟩
        · rw [na, nb, nc] at q2
          rw [if_neg (fun z => q2 z.2.1)] at ih
          rw [iN_one]
          exact ih
        · rw [na, nb, nc] at q3
          rw [if_neg (fun z => q3 z.2.2)] at ih
          rw [iN_one]
          exact ih
        · rw [na, nb, nc] at q2 q3
          rw [if_pos ⟨q, q2, q3⟩] at ih
          rw [iN_one, iN_one]
          exact ih
  have mid : ∀ (a n : Nat) (u : Option Value), a < nM (cR σ 6) → (∀ u1 u2, gE 95 4 [some (.ref 6), some (.int (iN (rgA (cR σ 6) a n))), some (.int (iN (a + 1))), u1, u2] [] σ K) → gE 95 16 [some (.ref 6), some (.int (iN n)), some (.int (iN a)), some (.int (iN (a + 1))), u] [] σ K := by
    intro a n u ha hout
    refine g_forJ (nM (cR σ 6) - (a + 1)) (fun k u => [some (.ref 6), some (.int (iN (nfold (rgB (cR σ 6) a) k n))), some (.int (iN a)), some (.int (iN (a + 1 + k))), u]) (fun _ => σ) (fun _ => True) (fun _ u => ?_) (fun k hk _ ih u => ?_) 0 (Nat.zero_le _) trivial u
    · refine c95_16 ⟨fun _ => ?_, fun h => ?_⟩
      · rw [iN_one]
        exact hout _ _
      · rw [← cR_3 σ 6, nM_lt hc3 (by omega)] at h; omega
    · refine c95_16 ⟨fun h => ?_, fun _ => ?_⟩
      · rw [← cR_3 σ 6, nM_lt hc3 (by omega)] at h; omega
      · rw [iN_one]
        exact inner a k _ ha hk (ih trivial _)
  refine w95 ?_
  refine g_forJ (J := Option Value × Option Value) (nM (cR σ 6)) (fun k u => [some (.ref 6), some (.int (iN (nfold (rgA (cR σ 6)) k 0))), some (.int (iN k)), u.1, u.2]) (fun _ => σ) (fun _ => True) (fun _ u => ?_) (fun k hk _ ih u => ?_) 0 (Nat.zero_le _) trivial (none, none)
  · refine c95_4 ⟨fun _ => hK, fun h => ?_⟩
    rw [← cR_3 σ 6, nM_lt hc3 (by omega)] at h; omega
  · refine c95_4 ⟨fun h => ?_, fun _ => ?_⟩
    · rw [← cR_3 σ 6, nM_lt hc3 (by omega)] at h; omega
    · rw [iN_one]
      exact mid k _ _ hk (fun u1 u2 => ih trivial (u1, u2))
noncomputable def f95 : gD := fun Lv σ => match Lv with
  | [some (.ref q0), none, none, none, none] => cond (Nat.beq q0 6) (some (some (SC σ ∧ bF (cR σ 6)), some (.int (fRi (cR σ 6))), σ)) none
  | _ => none
theorem ok95 : gFok 95 f95 := by
  intro Lv σ q h hc K hK
  unfold f95 at h
  split at h
  · rename_i q0
    obtain ⟨hb, h⟩ := c_no h
    have hb0 := hb
    have e0 := b_eq hb0
    subst e0
    cases h
    exact s95 (hc _ rfl) hK
  · cases h
set_option maxRecDepth 20000 in
theorem w247 {σ : gS} {K : gK} (h : gE 247 4 [some (.ref 323), some (.int 0), some (.int 0), none, none] [] σ K) : gE 247 0 [some (.ref 323), none, none, none, none] [] σ K :=
  gw_run (cy := 247) (cuts := [4, 18, 33]) (inl := []) (pf := gpei) gpei_ok 400 (by decide) h
set_option maxRecDepth 20000 in
theorem c247_4 {σ : gS} {K : gK} {l1 l2 : Int32} {l3 l4 : Option Value} (h : (0 ≤ (3 : Int32) ∧ (3 : Int32) < 330) ∧ ((¬ l2 < (σ 324 3) → K (some (.int l1)) σ) ∧ (l2 < (σ 324 3) → gE 247 18 [some (.ref 323), some (.int l1), some (.int l2), some (.int (l2 + 1)), l4] [] σ K))) : gE 247 4 [some (.ref 323), some (.int l1), some (.int l2), l3, l4] [] σ K :=
  gw_run (cy := 247) (cuts := [4, 18, 33]) (inl := []) (pf := gpei) gpei_ok 400 (by decide) h
set_option maxRecDepth 20000 in
theorem c247_18 {σ : gS} {K : gK} {l1 l2 l3 : Int32} {l4 : Option Value} (h : (0 ≤ (3 : Int32) ∧ (3 : Int32) < 330) ∧ ((¬ l3 < (σ 324 3) → gE 247 4 [some (.ref 323), some (.int l1), some (.int (l2 + 1)), some (.int l3), l4] [] σ K) ∧ (l3 < (σ 324 3) → gE 247 33 [some (.ref 323), some (.int l1), some (.int l2), some (.int l3), some (.int (l2 + 1))] [] σ K))) : gE 247 18 [some (.ref 323), some (.int l1), some (.int l2), some (.int l3), l4] [] σ K :=
  gw_run (cy := 247) (cuts := [4, 18, 33]) (inl := []) (pf := gpei) gpei_ok 400 (by decide) h
set_option maxRecDepth 20000 in
theorem c247_33 {σ : gS} {K : gK} {l1 l2 l3 l4 : Int32} (h : (0 ≤ (3 : Int32) ∧ (3 : Int32) < 330) ∧ ((¬ l4 < (σ 324 3) → gE 247 18 [some (.ref 323), some (.int l1), some (.int l2), some (.int (l3 + 1)), some (.int l4)] [] σ K) ∧ (l4 < (σ 324 3) → ((l4 = l3 → gE 247 33 [some (.ref 323), some (.int l1), some (.int l2), some (.int l3), some (.int (l4 + 1))] [] σ K) ∧ (¬ l4 = l3 → (((0 ≤ l2 ∧ l2 < 20) ∧ (0 ≤ l3 ∧ l3 < 20) ∧ (0 ≤ l4 ∧ l4 < 20)) ∧ (l2.toNatClampNeg ≠ l3.toNatClampNeg ∧ l3.toNatClampNeg ≠ l4.toNatClampNeg ∧ l2.toNatClampNeg ≠ l4.toNatClampNeg) ∧ 0 ≤ σ 324 3 ∧ σ 324 3 ≤ 20) ∧ ((¬ 0 < (fWhyR (σ 324) l2.toNatClampNeg l3.toNatClampNeg l4.toNatClampNeg) → (((0 ≤ l2 ∧ l2 < 20) ∧ (0 ≤ l3 ∧ l3 < 20) ∧ (0 ≤ l4 ∧ l4 < 20)) ∧ (l2.toNatClampNeg ≠ l3.toNatClampNeg ∧ l3.toNatClampNeg ≠ l4.toNatClampNeg ∧ l2.toNatClampNeg ≠ l4.toNatClampNeg) ∧ 0 ≤ σ 324 3 ∧ σ 324 3 ≤ 20) ∧ ((¬ 0 < (fROR (σ 324) l2.toNatClampNeg l3.toNatClampNeg l4.toNatClampNeg) → gE 247 33 [some (.ref 323), some (.int l1), some (.int l2), some (.int l3), some (.int (l4 + 1))] [] σ K) ∧ (0 < (fROR (σ 324) l2.toNatClampNeg l3.toNatClampNeg l4.toNatClampNeg) → gE 247 33 [some (.ref 323), some (.int (l1 + 1)), some (.int l2), some (.int l3), some (.int (l4 + 1))] [] σ K))) ∧ (0 < (fWhyR (σ 324) l2.toNatClampNeg l3.toNatClampNeg l4.toNatClampNeg) → gE 247 33 [some (.ref 323), some (.int l1), some (.int l2), some (.int l3), some (.int (l4 + 1))] [] σ K))))))) : gE 247 33 [some (.ref 323), some (.int l1), some (.int l2), some (.int l3), some (.int l4)] [] σ K :=
  gw_run (cy := 247) (cuts := [4, 18, 33]) (inl := []) (pf := gpei) gpei_ok 400 (by decide) h
theorem s247 {σ : gS} {K : gK} (hc : RS σ) (hK : K (some (.int (fRi (σ 324)))) σ) : gE 247 0 [some (.ref 323), none, none, none, none] [] σ K := by
  obtain ⟨⟨h3, h9⟩, hu⟩ := hc
  have hc3 := h3
  have hn := (nM_of hc3).2
  have inner : ∀ (a i n : Nat), a < nM (σ 324) → i < nM (σ 324) - (a + 1) → gE 247 18 [some (.ref 323), some (.int (iN (rgB (σ 324) a i n))), some (.int (iN a)), some (.int (iN (a + 1 + (i + 1)))), some (.int (iN (a + 1 + (nM (σ 324) - (a + 1)))))] [] σ K → gE 247 33 [some (.ref 323), some (.int (iN n)), some (.int (iN a)), some (.int (iN (a + 1 + i))), some (.int (iN (a + 1)))] [] σ K := by
    intro a i n ha hi hout
    refine g_forI (nM (σ 324) - (a + 1)) (fun k => [some (.ref 323), some (.int (iN (nfold (rgC (σ 324) a (a + 1 + i)) k n))), some (.int (iN a)), some (.int (iN (a + 1 + i))), some (.int (iN (a + 1 + k)))]) (fun _ => σ) (fun _ => True) (fun _ => ?_) (fun k hk _ ih => ?_) 0 (Nat.zero_le _) trivial
    · refine c247_33 ⟨by decide, fun _ => ?_, fun h => ?_⟩
      · rw [iN_one]
        exact hout
      · rw [nM_lt hc3 (by omega)] at h; omega
    · have ih := ih trivial
      have e : nfold (rgC (σ 324) a (a + 1 + i)) (k + 1) n = rgC (σ 324) a (a + 1 + i) k (nfold (rgC (σ 324) a (a + 1 + i)) k n) := rfl
      rw [e] at ih
      generalize nfold (rgC (σ 324) a (a + 1 + i)) k n = n at ih ⊢
      unfold rgC at ih
      have na : (iN a).toNatClampNeg = a := iN_nat (by omega)
      have nb : (iN (a + 1 + i)).toNatClampNeg = a + 1 + i := iN_nat (by omega)
      have nc : (iN (a + 1 + k)).toNatClampNeg = a + 1 + k := iN_nat (by omega)
      have hz := fWhyR_c (R := σ 324) (a := a) (b := a + 1 + i) (c := a + 1 + k)
      refine c247_33 ⟨by decide, fun h => ?_, fun _ => ⟨fun q => ?_, fun q => ?_⟩⟩
      · rw [nM_lt hc3 (by omega)] at h; omega
      · have q := (iN_inj (by omega) (by omega)).mp q
        rw [if_neg (fun z => z.1 q.symm)] at ih
        rw [iN_one]
        exact ih
      · have q : ¬ a + 1 + i = a + 1 + k := fun z => q (by rw [z])
        refine ⟨⟨⟨b20 (by omega), b20 (by omega), b20 (by omega)⟩, ⟨by rw [na, nb]; omega, by rw [nb, nc]; omega, by rw [na, nc]; omega⟩, h3⟩, fun q2 => ⟨⟨⟨b20 (by omega), b20 (by omega), b20 (by omega)⟩, ⟨by rw [na, nb]; omega, by rw [nb, nc]; omega, by rw [na, nc]; omega⟩, h3⟩, fun q3 => ?_, fun q3 => ?_⟩, fun q2 => ?_⟩
        · rw [na, nb, nc] at q3
          rw [if_neg (fun z => q3 z.2.2)] at ih
          rw [iN_one]
          exact ih
        · rw [na, nb, nc] at q2 q3
          rw [if_pos ⟨q, hz.resolve_right q2, q3⟩] at ih
          rw [iN_one, iN_one]
          exact ih
        · rw [na, nb, nc] at q2
          rw [if_neg (fun z => by have z2 := z.2.1; rw [z2] at q2; exact absurd q2 (by decide))] at ih
          rw [iN_one]
          exact ih
  have mid : ∀ (a n : Nat) (u : Option Value), a < nM (σ 324) → (∀ u1 u2, gE 247 4 [some (.ref 323), some (.int (iN (rgA (σ 324) a n))), some (.int (iN (a + 1))), u1, u2] [] σ K) → gE 247 18 [some (.ref 323), some (.int (iN n)), some (.int (iN a)), some (.int (iN (a + 1))), u] [] σ K := by
    intro a n u ha hout
    refine g_forJ (nM (σ 324) - (a + 1)) (fun k u => [some (.ref 323), some (.int (iN (nfold (rgB (σ 324) a) k n))), some (.int (iN a)), some (.int (iN (a + 1 + k))), u]) (fun _ => σ) (fun _ => True) (fun _ u => ?_) (fun k hk _ ih u => ?_) 0 (Nat.zero_le _) trivial u
    · refine c247_18 ⟨by decide, fun _ => ?_, fun h => ?_⟩
      · rw [iN_one]
        exact hout _ _
      · rw [nM_lt hc3 (by omega)] at h; omega
    · refine c247_18 ⟨by decide, fun h => ?_, fun _ => ?_⟩
      · rw [nM_lt hc3 (by omega)] at h; omega
      · rw [iN_one]
        exact inner a k _ ha hk (ih trivial _)
  refine w247 ?_
  refine g_forJ (J := Option Value × Option Value) (nM (σ 324)) (fun k u => [some (.ref 323), some (.int (iN (nfold (rgA (σ 324)) k 0))), some (.int (iN k)), u.1, u.2]) (fun _ => σ) (fun _ => True) (fun _ u => ?_) (fun k hk _ ih u => ?_) 0 (Nat.zero_le _) trivial (none, none)
  · refine c247_4 ⟨by decide, fun _ => hK, fun h => ?_⟩
    rw [nM_lt hc3 (by omega)] at h; omega
  · refine c247_4 ⟨by decide, fun h => ?_, fun _ => ?_⟩
    · rw [nM_lt hc3 (by omega)] at h; omega
    · rw [iN_one]
      exact mid k _ _ hk (fun u1 u2 => ih trivial (u1, u2))
noncomputable def f247 : gD := fun Lv σ => match Lv with
  | [some (.ref q0), none, none, none, none] => cond (Nat.beq q0 323) (some (some (RS σ), some (.int (fRi (σ 324))), σ)) none
  | _ => none
theorem ok247 : gFok 247 f247 := by
  intro Lv σ q h hc K hK
  unfold f247 at h
  split at h
  · rename_i q0
    obtain ⟨hb, h⟩ := c_no h
    have hb0 := hb
    have e0 := b_eq hb0
    subst e0
    cases h
    exact s247 (hc _ rfl) hK
  · cases h
noncomputable def gpej_l : List (Nat × gD) := (96, f96) :: (245, f245) :: (97, f97) :: (246, f246) :: (95, f95) :: (247, f247) :: gpei_l
noncomputable def gpej : gP := gpl0 gpej_l
theorem gpej_ok : gPok gpej := gpl0_cons ok96 (gpl0_cons ok245 (gpl0_cons ok97 (gpl0_cons ok246 (gpl0_cons ok95 (gpl0_cons ok247 (gpei_ok))))))
set_option maxRecDepth 20000 in
theorem w135 {σ : gS} {K : gK} {t : Int32} (h : (((bI (isT (cR σ 6) t)) = 0 → K (some (.int (-1))) σ) ∧ (¬ (bI (isT (cR σ 6) t)) = 0 → (SC σ ∧ isN σ 6 t) ∧ K (some (.int (fBs (cR σ 6) t.toNatClampNeg))) σ))) : gE 135 0 [some (.ref 0), some (.int t)] [] σ K :=
  gw_run (cy := 135) (cuts := []) (inl := []) (pf := gpej) gpej_ok 400 (by decide) h
theorem s135 {σ : gS} {K : gK} {t : Int32} (hc : SC σ) (hK : K (some (.int (if isT (cR σ 6) t then fBs (cR σ 6) t.toNatClampNeg else -1))) σ) : gE 135 0 [some (.ref 0), some (.int t)] [] σ K := by
  have hcc := hc
  obtain ⟨hT, hP, hL, h0⟩ := hc
  have h7 : 0 ≤ σ 6 7 ∧ σ 6 7 ≤ 20 := SC_7 ⟨hT, hP, hL, h0⟩
  refine w135 ⟨fun h => ?_, fun h => ⟨⟨hcc, isN_of hT.1 (dnn h)⟩, ?_⟩⟩
  · rw [if_neg (bI_0.mp h)] at hK; exact hK
  · rw [if_pos (dnn h)] at hK; exact hK
noncomputable def f135 : gD := fun Lv σ => match Lv with
  | [some (.ref q0), some (.int t)] => cond (Nat.beq q0 0) (some (some (SC σ), some (.int (if isT (cR σ 6) t then fBs (cR σ 6) t.toNatClampNeg else -1)), σ)) none
  | _ => none
theorem ok135 : gFok 135 f135 := by
  intro Lv σ q h hc K hK
  unfold f135 at h
  split at h
  · rename_i q0 t
    obtain ⟨hb, h⟩ := c_no h
    have hb0 := hb
    have e0 := b_eq hb0
    subst e0
    cases h
    exact s135 (hc _ rfl) hK
  · cases h
set_option maxRecDepth 20000 in
theorem w136 {σ : gS} {K : gK} {t : Int32} (h : (((bI (isT (cR σ 6) t)) = 0 → K (some (.int (-1))) σ) ∧ (¬ (bI (isT (cR σ 6) t)) = 0 → (SC σ ∧ isN σ 6 t) ∧ K (some (.int (fPa (cR σ 6) t.toNatClampNeg))) σ))) : gE 136 0 [some (.ref 0), some (.int t)] [] σ K :=
  gw_run (cy := 136) (cuts := []) (inl := []) (pf := gpej) gpej_ok 400 (by decide) h
theorem s136 {σ : gS} {K : gK} {t : Int32} (hc : SC σ) (hK : K (some (.int (if isT (cR σ 6) t then fPa (cR σ 6) t.toNatClampNeg else -1))) σ) : gE 136 0 [some (.ref 0), some (.int t)] [] σ K := by
  have hcc := hc
  obtain ⟨hT, hP, hL, h0⟩ := hc
  have h7 : 0 ≤ σ 6 7 ∧ σ 6 7 ≤ 20 := SC_7 ⟨hT, hP, hL, h0⟩
  refine w136 ⟨fun h => ?_, fun h => ⟨⟨hcc, isN_of hT.1 (dnn h)⟩, ?_⟩⟩
  · rw [if_neg (bI_0.mp h)] at hK; exact hK
  · rw [if_pos (dnn h)] at hK; exact hK
noncomputable def f136 : gD := fun Lv σ => match Lv with
  | [some (.ref q0), some (.int t)] => cond (Nat.beq q0 0) (some (some (SC σ), some (.int (if isT (cR σ 6) t then fPa (cR σ 6) t.toNatClampNeg else -1)), σ)) none
  | _ => none
theorem ok136 : gFok 136 f136 := by
  intro Lv σ q h hc K hK
  unfold f136 at h
  split at h
  · rename_i q0 t
    obtain ⟨hb, h⟩ := c_no h
    have hb0 := hb
    have e0 := b_eq hb0
    subst e0
    cases h
    exact s136 (hc _ rfl) hK
  · cases h
set_option maxRecDepth 20000 in
theorem w137 {σ : gS} {K : gK} (h : (SC σ ∧ bF (cR σ 6)) ∧ K (some (.int (fRi (cR σ 6)))) σ) : gE 137 0 [some (.ref 0)] [] σ K :=
  gw_run (cy := 137) (cuts := []) (inl := []) (pf := gpej) gpej_ok 400 (by decide) h
theorem s137 {σ : gS} {K : gK} (hc : SC σ ∧ bF (cR σ 6)) (hK : K (some (.int (fRi (cR σ 6)))) σ) : gE 137 0 [some (.ref 0)] [] σ K := by
  exact w137 ⟨hc, hK⟩
noncomputable def f137 : gD := fun Lv σ => match Lv with
  | [some (.ref q0)] => cond (Nat.beq q0 0) (some (some (SC σ ∧ bF (cR σ 6)), some (.int (fRi (cR σ 6))), σ)) none
  | _ => none
theorem ok137 : gFok 137 f137 := by
  intro Lv σ q h hc K hK
  unfold f137 at h
  split at h
  · rename_i q0
    obtain ⟨hb, h⟩ := c_no h
    have hb0 := hb
    have e0 := b_eq hb0
    subst e0
    cases h
    exact s137 (hc _ rfl) hK
  · cases h
noncomputable def gpek_l : List (Nat × gD) := (135, f135) :: (136, f136) :: (137, f137) :: gpej_l
noncomputable def gpek : gP := gpl0 gpek_l
theorem gpek_ok : gPok gpek := gpl0_cons ok135 (gpl0_cons ok136 (gpl0_cons ok137 (gpej_ok)))
end
section
-- text 107
/-! THE CLASS: the writer touches nothing but itself; the plan -/
noncomputable def Uw (σ τ : gS) : Prop := ∀ q, ¬ q = 5 → τ q = σ q
theorem Uw_r (σ : gS) : Uw σ σ := fun _ _ => rfl
theorem Uw_t {σ τ ρ : gS} (h : Uw σ τ) (h2 : Uw τ ρ) : Uw σ ρ := fun q hq => (h2 q hq).trans (h q hq)
theorem Uw_g {σ τ : gS} {j : Nat} {x : Int32} (h : Uw σ τ) : Uw σ (gup τ 5 j x) := fun q hq => by
  rw [← h q hq]
  exact funext fun i => gup_ne (by omega)
noncomputable def UK (σ : gS) (P : gS → Prop) : Prop := ∀ τ, Uw σ τ → P τ
theorem UK_t {σ τ : gS} {P : gS → Prop} (h : UK σ P) (u : Uw σ τ) : UK τ P := fun ρ v => h ρ (Uw_t u v)
set_option maxRecDepth 20000 in
theorem w40 {σ : gS} {K : gK} {x : Int32} (h : ((¬ (σ 5 0) = (σ 5 1) → K none (gup σ 5 0 ((σ 5 0) + 1))) ∧ ((σ 5 0) = (σ 5 1) → K none (gup (gup σ 5 2 x) 5 0 (((gup σ 5 2 x) 5 0) + 1))))) : gE 40 0 [some (.ref 5), some (.int x)] [] σ K :=
  gw_run (cy := 40) (cuts := []) (inl := []) (pf := gpek) gpek_ok 400 (by decide) h
theorem x40 {σ : gS} {P : gS → Prop} {x : Int32} (h : UK σ P) : gXv 40 [some (.ref 5), some (.int x)] σ P :=
  w40 ⟨fun _ => ⟨rfl, h _ (Uw_g (Uw_r σ))⟩, fun _ => ⟨rfl, h _ (Uw_g (Uw_g (Uw_r σ)))⟩⟩
set_option maxRecDepth 20000 in
theorem w39_1000011 {σ : gS} {K : gK} (h : gE 39 2 [some (.ref 5), some (.ref 1000011), some (.int 0)] [] σ K) : gE 39 0 [some (.ref 5), some (.ref 1000011), none] [] σ K :=
  gw_run (cy := 39) (cuts := [2]) (inl := []) (pf := gpek) gpek_ok 400 (by decide) h
set_option maxRecDepth 20000 in
theorem v39_1000011 {σ : gS} {K : gK} {k : Int32} (h : ((¬ k < 6 → K none σ) ∧ (k < 6 → (0 ≤ k ∧ k < 6) ∧ gXv 40 [some (.ref 5), some (.int ((jv_byt.getD 10 []).getD k.toNatClampNeg 0))] σ (fun s1 => gE 39 2 [some (.ref 5), some (.ref 1000011), some (.int (k + 1))] [] s1 K)))) : gE 39 2 [some (.ref 5), some (.ref 1000011), some (.int k)] [] σ K :=
  gw_run (cy := 39) (cuts := [2]) (inl := []) (pf := gpek) gpek_ok 400 (by decide) h
theorem x39_1000011 {σ : gS} {P : gS → Prop} (h : UK σ P) : gXv 39 [some (.ref 5), some (.ref 1000011), none] σ P := by
  have key : ∀ d k, k + d = 6 → ∀ σ, UK σ P → gE 39 2 [some (.ref 5), some (.ref 1000011), some (.int (iN k))] [] σ (fun r σ1 => r = none ∧ P σ1) := by
    intro d
    induction d with
    | zero =>
      intro k hk σ h
      have : k = 6 := by omega
      subst this
      exact v39_1000011 ⟨fun _ => ⟨rfl, h σ (Uw_r σ)⟩, fun z => absurd z (by decide)⟩
    | succ d ih =>
      intro k hk σ h
      refine v39_1000011 ⟨fun z => absurd ((iN_lt (m := 6) (by omega) (by decide)).mpr (by omega)) z, fun z => ⟨⟨(iN_le (k := 0) (by decide) (by omega)).mpr (by omega), z⟩, x40 (fun τ u => ?_)⟩⟩
      rw [iN_one]
      exact ih (k + 1) (by omega) τ (UK_t h u)
  exact w39_1000011 (key 6 0 rfl σ h)
set_option maxRecDepth 20000 in
theorem w39_1000012 {σ : gS} {K : gK} (h : gE 39 2 [some (.ref 5), some (.ref 1000012), some (.int 0)] [] σ K) : gE 39 0 [some (.ref 5), some (.ref 1000012), none] [] σ K :=
  gw_run (cy := 39) (cuts := [2]) (inl := []) (pf := gpek) gpek_ok 400 (by decide) h
set_option maxRecDepth 20000 in
theorem v39_1000012 {σ : gS} {K : gK} {k : Int32} (h : ((¬ k < 7 → K none σ) ∧ (k < 7 → (0 ≤ k ∧ k < 7) ∧ gXv 40 [some (.ref 5), some (.int ((jv_byt.getD 11 []).getD k.toNatClampNeg 0))] σ (fun s1 => gE 39 2 [some (.ref 5), some (.ref 1000012), some (.int (k + 1))] [] s1 K)))) : gE 39 2 [some (.ref 5), some (.ref 1000012), some (.int k)] [] σ K :=
  gw_run (cy := 39) (cuts := [2]) (inl := []) (pf := gpek) gpek_ok 400 (by decide) h
theorem x39_1000012 {σ : gS} {P : gS → Prop} (h : UK σ P) : gXv 39 [some (.ref 5), some (.ref 1000012), none] σ P := by
  have key : ∀ d k, k + d = 7 → ∀ σ, UK σ P → gE 39 2 [some (.ref 5), some (.ref 1000012), some (.int (iN k))] [] σ (fun r σ1 => r = none ∧ P σ1) := by
    intro d
    induction d with
    | zero =>
      intro k hk σ h
      have : k = 7 := by omega
      subst this
      exact v39_1000012 ⟨fun _ => ⟨rfl, h σ (Uw_r σ)⟩, fun z => absurd z (by decide)⟩
    | succ d ih =>
      intro k hk σ h
      refine v39_1000012 ⟨fun z => absurd ((iN_lt (m := 7) (by omega) (by decide)).mpr (by omega)) z, fun z => ⟨⟨(iN_le (k := 0) (by decide) (by omega)).mpr (by omega), z⟩, x40 (fun τ u => ?_)⟩⟩
      rw [iN_one]
      exact ih (k + 1) (by omega) τ (UK_t h u)
  exact w39_1000012 (key 7 0 rfl σ h)
set_option maxRecDepth 20000 in
theorem w39_1000013 {σ : gS} {K : gK} (h : gE 39 2 [some (.ref 5), some (.ref 1000013), some (.int 0)] [] σ K) : gE 39 0 [some (.ref 5), some (.ref 1000013), none] [] σ K :=
  gw_run (cy := 39) (cuts := [2]) (inl := []) (pf := gpek) gpek_ok 400 (by decide) h
set_option maxRecDepth 20000 in
theorem v39_1000013 {σ : gS} {K : gK} {k : Int32} (h : ((¬ k < 5 → K none σ) ∧ (k < 5 → (0 ≤ k ∧ k < 5) ∧ gXv 40 [some (.ref 5), some (.int ((jv_byt.getD 12 []).getD k.toNatClampNeg 0))] σ (fun s1 => gE 39 2 [some (.ref 5), some (.ref 1000013), some (.int (k + 1))] [] s1 K)))) : gE 39 2 [some (.ref 5), some (.ref 1000013), some (.int k)] [] σ K :=
  gw_run (cy := 39) (cuts := [2]) (inl := []) (pf := gpek) gpek_ok 400 (by decide) h
theorem x39_1000013 {σ : gS} {P : gS → Prop} (h : UK σ P) : gXv 39 [some (.ref 5), some (.ref 1000013), none] σ P := by
  have key : ∀ d k, k + d = 5 → ∀ σ, UK σ P → gE 39 2 [some (.ref 5), some (.ref 1000013), some (.int (iN k))] [] σ (fun r σ1 => r = none ∧ P σ1) := by
    intro d
    induction d with
    | zero =>
      intro k hk σ h
      have : k = 5 := by omega
      subst this
      exact v39_1000013 ⟨fun _ => ⟨rfl, h σ (Uw_r σ)⟩, fun z => absurd z (by decide)⟩
    | succ d ih =>
      intro k hk σ h
      refine v39_1000013 ⟨fun z => absurd ((iN_lt (m := 5) (by omega) (by decide)).mpr (by omega)) z, fun z => ⟨⟨(iN_le (k := 0) (by decide) (by omega)).mpr (by omega), z⟩, x40 (fun τ u => ?_)⟩⟩
      rw [iN_one]
      exact ih (k + 1) (by omega) τ (UK_t h u)
  exact w39_1000013 (key 5 0 rfl σ h)
set_option maxRecDepth 20000 in
theorem w39_1000014 {σ : gS} {K : gK} (h : gE 39 2 [some (.ref 5), some (.ref 1000014), some (.int 0)] [] σ K) : gE 39 0 [some (.ref 5), some (.ref 1000014), none] [] σ K :=
  gw_run (cy := 39) (cuts := [2]) (inl := []) (pf := gpek) gpek_ok 400 (by decide) h
set_option maxRecDepth 20000 in
theorem v39_1000014 {σ : gS} {K : gK} {k : Int32} (h : ((¬ k < 7 → K none σ) ∧ (k < 7 → (0 ≤ k ∧ k < 7) ∧ gXv 40 [some (.ref 5), some (.int ((jv_byt.getD 13 []).getD k.toNatClampNeg 0))] σ (fun s1 => gE 39 2 [some (.ref 5), some (.ref 1000014), some (.int (k + 1))] [] s1 K)))) : gE 39 2 [some (.ref 5), some (.ref 1000014), some (.int k)] [] σ K :=
  gw_run (cy := 39) (cuts := [2]) (inl := []) (pf := gpek) gpek_ok 400 (by decide) h
theorem x39_1000014 {σ : gS} {P : gS → Prop} (h : UK σ P) : gXv 39 [some (.ref 5), some (.ref 1000014), none] σ P := by
  have key : ∀ d k, k + d = 7 → ∀ σ, UK σ P → gE 39 2 [some (.ref 5), some (.ref 1000014), some (.int (iN k))] [] σ (fun r σ1 => r = none ∧ P σ1) := by
    intro d
    induction d with
    | zero =>
      intro k hk σ h
      have : k = 7 := by omega
      subst this
      exact v39_1000014 ⟨fun _ => ⟨rfl, h σ (Uw_r σ)⟩, fun z => absurd z (by decide)⟩
    | succ d ih =>
      intro k hk σ h
      refine v39_1000014 ⟨fun z => absurd ((iN_lt (m := 7) (by omega) (by decide)).mpr (by omega)) z, fun z => ⟨⟨(iN_le (k := 0) (by decide) (by omega)).mpr (by omega), z⟩, x40 (fun τ u => ?_)⟩⟩
      rw [iN_one]
      exact ih (k + 1) (by omega) τ (UK_t h u)
  exact w39_1000014 (key 7 0 rfl σ h)
set_option maxRecDepth 20000 in
theorem w39_1000015 {σ : gS} {K : gK} (h : gE 39 2 [some (.ref 5), some (.ref 1000015), some (.int 0)] [] σ K) : gE 39 0 [some (.ref 5), some (.ref 1000015), none] [] σ K :=
  gw_run (cy := 39) (cuts := [2]) (inl := []) (pf := gpek) gpek_ok 400 (by decide) h
set_option maxRecDepth 20000 in
theorem v39_1000015 {σ : gS} {K : gK} {k : Int32} (h : ((¬ k < 8 → K none σ) ∧ (k < 8 → (0 ≤ k ∧ k < 8) ∧ gXv 40 [some (.ref 5), some (.int ((jv_byt.getD 14 []).getD k.toNatClampNeg 0))] σ (fun s1 => gE 39 2 [some (.ref 5), some (.ref 1000015), some (.int (k + 1))] [] s1 K)))) : gE 39 2 [some (.ref 5), some (.ref 1000015), some (.int k)] [] σ K :=
  gw_run (cy := 39) (cuts := [2]) (inl := []) (pf := gpek) gpek_ok 400 (by decide) h
theorem x39_1000015 {σ : gS} {P : gS → Prop} (h : UK σ P) : gXv 39 [some (.ref 5), some (.ref 1000015), none] σ P := by
  have key : ∀ d k, k + d = 8 → ∀ σ, UK σ P → gE 39 2 [some (.ref 5), some (.ref 1000015), some (.int (iN k))] [] σ (fun r σ1 => r = none ∧ P σ1) := by
    intro d
    induction d with
    | zero =>
      intro k hk σ h
      have : k = 8 := by omega
      subst this
      exact v39_1000015 ⟨fun _ => ⟨rfl, h σ (Uw_r σ)⟩, fun z => absurd z (by decide)⟩
    | succ d ih =>
      intro k hk σ h
      refine v39_1000015 ⟨fun z => absurd ((iN_lt (m := 8) (by omega) (by decide)).mpr (by omega)) z, fun z => ⟨⟨(iN_le (k := 0) (by decide) (by omega)).mpr (by omega), z⟩, x40 (fun τ u => ?_)⟩⟩
      rw [iN_one]
      exact ih (k + 1) (by omega) τ (UK_t h u)
  exact w39_1000015 (key 8 0 rfl σ h)
set_option maxRecDepth 20000 in
theorem w39_1000016 {σ : gS} {K : gK} (h : gE 39 2 [some (.ref 5), some (.ref 1000016), some (.int 0)] [] σ K) : gE 39 0 [some (.ref 5), some (.ref 1000016), none] [] σ K :=
  gw_run (cy := 39) (cuts := [2]) (inl := []) (pf := gpek) gpek_ok 400 (by decide) h
set_option maxRecDepth 20000 in
theorem v39_1000016 {σ : gS} {K : gK} {k : Int32} (h : ((¬ k < 8 → K none σ) ∧ (k < 8 → (0 ≤ k ∧ k < 8) ∧ gXv 40 [some (.ref 5), some (.int ((jv_byt.getD 15 []).getD k.toNatClampNeg 0))] σ (fun s1 => gE 39 2 [some (.ref 5), some (.ref 1000016), some (.int (k + 1))] [] s1 K)))) : gE 39 2 [some (.ref 5), some (.ref 1000016), some (.int k)] [] σ K :=
  gw_run (cy := 39) (cuts := [2]) (inl := []) (pf := gpek) gpek_ok 400 (by decide) h
theorem x39_1000016 {σ : gS} {P : gS → Prop} (h : UK σ P) : gXv 39 [some (.ref 5), some (.ref 1000016), none] σ P := by
  have key : ∀ d k, k + d = 8 → ∀ σ, UK σ P → gE 39 2 [some (.ref 5), some (.ref 1000016), some (.int (iN k))] [] σ (fun r σ1 => r = none ∧ P σ1) := by
    intro d
    induction d with
    | zero =>
      intro k hk σ h
      have : k = 8 := by omega
      subst this
      exact v39_1000016 ⟨fun _ => ⟨rfl, h σ (Uw_r σ)⟩, fun z => absurd z (by decide)⟩
    | succ d ih =>
      intro k hk σ h
      refine v39_1000016 ⟨fun z => absurd ((iN_lt (m := 8) (by omega) (by decide)).mpr (by omega)) z, fun z => ⟨⟨(iN_le (k := 0) (by decide) (by omega)).mpr (by omega), z⟩, x40 (fun τ u => ?_)⟩⟩
      rw [iN_one]
      exact ih (k + 1) (by omega) τ (UK_t h u)
  exact w39_1000016 (key 8 0 rfl σ h)
set_option maxRecDepth 20000 in
theorem w39_1000017 {σ : gS} {K : gK} (h : gE 39 2 [some (.ref 5), some (.ref 1000017), some (.int 0)] [] σ K) : gE 39 0 [some (.ref 5), some (.ref 1000017), none] [] σ K :=
  gw_run (cy := 39) (cuts := [2]) (inl := []) (pf := gpek) gpek_ok 400 (by decide) h
set_option maxRecDepth 20000 in
theorem v39_1000017 {σ : gS} {K : gK} {k : Int32} (h : ((¬ k < 7 → K none σ) ∧ (k < 7 → (0 ≤ k ∧ k < 7) ∧ gXv 40 [some (.ref 5), some (.int ((jv_byt.getD 16 []).getD k.toNatClampNeg 0))] σ (fun s1 => gE 39 2 [some (.ref 5), some (.ref 1000017), some (.int (k + 1))] [] s1 K)))) : gE 39 2 [some (.ref 5), some (.ref 1000017), some (.int k)] [] σ K :=
  gw_run (cy := 39) (cuts := [2]) (inl := []) (pf := gpek) gpek_ok 400 (by decide) h
theorem x39_1000017 {σ : gS} {P : gS → Prop} (h : UK σ P) : gXv 39 [some (.ref 5), some (.ref 1000017), none] σ P := by
  have key : ∀ d k, k + d = 7 → ∀ σ, UK σ P → gE 39 2 [some (.ref 5), some (.ref 1000017), some (.int (iN k))] [] σ (fun r σ1 => r = none ∧ P σ1) := by
    intro d
    induction d with
    | zero =>
      intro k hk σ h
      have : k = 7 := by omega
      subst this
      exact v39_1000017 ⟨fun _ => ⟨rfl, h σ (Uw_r σ)⟩, fun z => absurd z (by decide)⟩
    | succ d ih =>
      intro k hk σ h
      refine v39_1000017 ⟨fun z => absurd ((iN_lt (m := 7) (by omega) (by decide)).mpr (by omega)) z, fun z => ⟨⟨(iN_le (k := 0) (by decide) (by omega)).mpr (by omega), z⟩, x40 (fun τ u => ?_)⟩⟩
      rw [iN_one]
      exact ih (k + 1) (by omega) τ (UK_t h u)
  exact w39_1000017 (key 7 0 rfl σ h)
set_option maxRecDepth 20000 in
theorem w39_1000018 {σ : gS} {K : gK} (h : gE 39 2 [some (.ref 5), some (.ref 1000018), some (.int 0)] [] σ K) : gE 39 0 [some (.ref 5), some (.ref 1000018), none] [] σ K :=
  gw_run (cy := 39) (cuts := [2]) (inl := []) (pf := gpek) gpek_ok 400 (by decide) h
set_option maxRecDepth 20000 in
theorem v39_1000018 {σ : gS} {K : gK} {k : Int32} (h : ((¬ k < 5 → K none σ) ∧ (k < 5 → (0 ≤ k ∧ k < 5) ∧ gXv 40 [some (.ref 5), some (.int ((jv_byt.getD 17 []).getD k.toNatClampNeg 0))] σ (fun s1 => gE 39 2 [some (.ref 5), some (.ref 1000018), some (.int (k + 1))] [] s1 K)))) : gE 39 2 [some (.ref 5), some (.ref 1000018), some (.int k)] [] σ K :=
  gw_run (cy := 39) (cuts := [2]) (inl := []) (pf := gpek) gpek_ok 400 (by decide) h
theorem x39_1000018 {σ : gS} {P : gS → Prop} (h : UK σ P) : gXv 39 [some (.ref 5), some (.ref 1000018), none] σ P := by
  have key : ∀ d k, k + d = 5 → ∀ σ, UK σ P → gE 39 2 [some (.ref 5), some (.ref 1000018), some (.int (iN k))] [] σ (fun r σ1 => r = none ∧ P σ1) := by
    intro d
    induction d with
    | zero =>
      intro k hk σ h
      have : k = 5 := by omega
      subst this
      exact v39_1000018 ⟨fun _ => ⟨rfl, h σ (Uw_r σ)⟩, fun z => absurd z (by decide)⟩
    | succ d ih =>
      intro k hk σ h
      refine v39_1000018 ⟨fun z => absurd ((iN_lt (m := 5) (by omega) (by decide)).mpr (by omega)) z, fun z => ⟨⟨(iN_le (k := 0) (by decide) (by omega)).mpr (by omega), z⟩, x40 (fun τ u => ?_)⟩⟩
      rw [iN_one]
      exact ih (k + 1) (by omega) τ (UK_t h u)
  exact w39_1000018 (key 5 0 rfl σ h)
set_option maxRecDepth 20000 in
theorem w39_1000019 {σ : gS} {K : gK} (h : gE 39 2 [some (.ref 5), some (.ref 1000019), some (.int 0)] [] σ K) : gE 39 0 [some (.ref 5), some (.ref 1000019), none] [] σ K :=
  gw_run (cy := 39) (cuts := [2]) (inl := []) (pf := gpek) gpek_ok 400 (by decide) h
set_option maxRecDepth 20000 in
theorem v39_1000019 {σ : gS} {K : gK} {k : Int32} (h : ((¬ k < 8 → K none σ) ∧ (k < 8 → (0 ≤ k ∧ k < 8) ∧ gXv 40 [some (.ref 5), some (.int ((jv_byt.getD 18 []).getD k.toNatClampNeg 0))] σ (fun s1 => gE 39 2 [some (.ref 5), some (.ref 1000019), some (.int (k + 1))] [] s1 K)))) : gE 39 2 [some (.ref 5), some (.ref 1000019), some (.int k)] [] σ K :=
  gw_run (cy := 39) (cuts := [2]) (inl := []) (pf := gpek) gpek_ok 400 (by decide) h
theorem x39_1000019 {σ : gS} {P : gS → Prop} (h : UK σ P) : gXv 39 [some (.ref 5), some (.ref 1000019), none] σ P := by
  have key : ∀ d k, k + d = 8 → ∀ σ, UK σ P → gE 39 2 [some (.ref 5), some (.ref 1000019), some (.int (iN k))] [] σ (fun r σ1 => r = none ∧ P σ1) := by
    intro d
    induction d with
    | zero =>
      intro k hk σ h
      have : k = 8 := by omega
      subst this
      exact v39_1000019 ⟨fun _ => ⟨rfl, h σ (Uw_r σ)⟩, fun z => absurd z (by decide)⟩
    | succ d ih =>
      intro k hk σ h
      refine v39_1000019 ⟨fun z => absurd ((iN_lt (m := 8) (by omega) (by decide)).mpr (by omega)) z, fun z => ⟨⟨(iN_le (k := 0) (by decide) (by omega)).mpr (by omega), z⟩, x40 (fun τ u => ?_)⟩⟩
      rw [iN_one]
      exact ih (k + 1) (by omega) τ (UK_t h u)
  exact w39_1000019 (key 8 0 rfl σ h)
set_option maxRecDepth 20000 in
theorem w39_1000020 {σ : gS} {K : gK} (h : gE 39 2 [some (.ref 5), some (.ref 1000020), some (.int 0)] [] σ K) : gE 39 0 [some (.ref 5), some (.ref 1000020), none] [] σ K :=
  gw_run (cy := 39) (cuts := [2]) (inl := []) (pf := gpek) gpek_ok 400 (by decide) h
set_option maxRecDepth 20000 in
theorem v39_1000020 {σ : gS} {K : gK} {k : Int32} (h : ((¬ k < 6 → K none σ) ∧ (k < 6 → (0 ≤ k ∧ k < 6) ∧ gXv 40 [some (.ref 5), some (.int ((jv_byt.getD 19 []).getD k.toNatClampNeg 0))] σ (fun s1 => gE 39 2 [some (.ref 5), some (.ref 1000020), some (.int (k + 1))] [] s1 K)))) : gE 39 2 [some (.ref 5), some (.ref 1000020), some (.int k)] [] σ K :=
  gw_run (cy := 39) (cuts := [2]) (inl := []) (pf := gpek) gpek_ok 400 (by decide) h
theorem x39_1000020 {σ : gS} {P : gS → Prop} (h : UK σ P) : gXv 39 [some (.ref 5), some (.ref 1000020), none] σ P := by
  have key : ∀ d k, k + d = 6 → ∀ σ, UK σ P → gE 39 2 [some (.ref 5), some (.ref 1000020), some (.int (iN k))] [] σ (fun r σ1 => r = none ∧ P σ1) := by
    intro d
    induction d with
    | zero =>
      intro k hk σ h
      have : k = 6 := by omega
      subst this
      exact v39_1000020 ⟨fun _ => ⟨rfl, h σ (Uw_r σ)⟩, fun z => absurd z (by decide)⟩
    | succ d ih =>
      intro k hk σ h
      refine v39_1000020 ⟨fun z => absurd ((iN_lt (m := 6) (by omega) (by decide)).mpr (by omega)) z, fun z => ⟨⟨(iN_le (k := 0) (by decide) (by omega)).mpr (by omega), z⟩, x40 (fun τ u => ?_)⟩⟩
      rw [iN_one]
      exact ih (k + 1) (by omega) τ (UK_t h u)
  exact w39_1000020 (key 6 0 rfl σ h)
set_option maxRecDepth 20000 in
theorem w38 {σ : gS} {K : gK} {n : Int32} (h : gE 38 5 [some (.ref 5), some (.int n), some (.int 0), some (.int 100000)] [] σ K) : gE 38 0 [some (.ref 5), some (.int n), none, none] [] σ K :=
  gw_run (cy := 38) (cuts := [5]) (inl := []) (pf := gpek) gpek_ok 400 (by decide) h
set_option maxRecDepth 20000 in
theorem v38 {σ : gS} {K : gK} {n b u : Int32} (h : ((¬ 0 < u → K none σ) ∧ (0 < u → ((¬ b = 0 → (((1 : Int32) = 0 → (10 : Int32) ≠ 0 ∧ gE 38 5 [some (.ref 5), some (.int n), some (.int 1), some (.int (u / 10))] [] σ K) ∧ (¬ (1 : Int32) = 0 → u ≠ 0 ∧ (10 : Int32) ≠ 0 ∧ gXv 40 [some (.ref 5), some (.int (48 + ((n / u) - (n / u) / 10 * 10)))] σ (fun s1 => (10 : Int32) ≠ 0 ∧ gE 38 5 [some (.ref 5), some (.int n), some (.int 1), some (.int (u / 10))] [] s1 K)))) ∧ (b = 0 → ((¬ n < u → (((1 : Int32) = 0 → (10 : Int32) ≠ 0 ∧ gE 38 5 [some (.ref 5), some (.int n), some (.int 1), some (.int (u / 10))] [] σ K) ∧ (¬ (1 : Int32) = 0 → u ≠ 0 ∧ (10 : Int32) ≠ 0 ∧ gXv 40 [some (.ref 5), some (.int (48 + ((n / u) - (n / u) / 10 * 10)))] σ (fun s2 => (10 : Int32) ≠ 0 ∧ gE 38 5 [some (.ref 5), some (.int n), some (.int 1), some (.int (u / 10))] [] s2 K)))) ∧ (n < u → ((¬ u = 1 → (((0 : Int32) = 0 → (10 : Int32) ≠ 0 ∧ gE 38 5 [some (.ref 5), some (.int n), some (.int 0), some (.int (u / 10))] [] σ K) ∧ (¬ (0 : Int32) = 0 → u ≠ 0 ∧ (10 : Int32) ≠ 0 ∧ gXv 40 [some (.ref 5), some (.int (48 + ((n / u) - (n / u) / 10 * 10)))] σ (fun s3 => (10 : Int32) ≠ 0 ∧ gE 38 5 [some (.ref 5), some (.int n), some (.int 0), some (.int (u / 10))] [] s3 K)))) ∧ (u = 1 → (((1 : Int32) = 0 → (10 : Int32) ≠ 0 ∧ gE 38 5 [some (.ref 5), some (.int n), some (.int 1), some (.int (u / 10))] [] σ K) ∧ (¬ (1 : Int32) = 0 → u ≠ 0 ∧ (10 : Int32) ≠ 0 ∧ gXv 40 [some (.ref 5), some (.int (48 + ((n / u) - (n / u) / 10 * 10)))] σ (fun s4 => (10 : Int32) ≠ 0 ∧ gE 38 5 [some (.ref 5), some (.int n), some (.int 1), some (.int (u / 10))] [] s4 K)))))))))))) : gE 38 5 [some (.ref 5), some (.int n), some (.int b), some (.int u)] [] σ K :=
  gw_run (cy := 38) (cuts := [5]) (inl := []) (pf := gpek) gpek_ok 400 (by decide) h
theorem y38 {P : gS → Prop} {n u v : Int32} (hu : 0 < u) (hv : u / 10 = v) (hn : ∀ b σ, UK σ P → gE 38 5 [some (.ref 5), some (.int n), some (.int b), some (.int v)] [] σ (fun r σ1 => r = none ∧ P σ1)) : ∀ b σ, UK σ P → gE 38 5 [some (.ref 5), some (.int n), some (.int b), some (.int u)] [] σ (fun r σ1 => r = none ∧ P σ1) := by
  intro b σ h
  have u0 : u ≠ 0 := fun z => by rw [z] at hu; exact absurd hu (by decide)
  refine v38 ?_
  rw [hv]
  have t10 : (10 : Int32) ≠ 0 := by decide
  refine ⟨fun z => absurd hu z, fun _ => ⟨fun _ => ⟨fun z => absurd z (by decide), fun _ => ⟨u0, t10, x40 (fun τ w => ⟨t10, hn _ τ (UK_t h w)⟩)⟩⟩, fun _ => ⟨fun _ => ⟨fun z => absurd z (by decide), fun _ => ⟨u0, t10, x40 (fun τ w => ⟨t10, hn _ τ (UK_t h w)⟩)⟩⟩, fun _ => ⟨fun _ => ⟨fun _ => ⟨t10, hn _ σ h⟩, fun z => absurd rfl z⟩, fun _ => ⟨fun z => absurd z (by decide), fun _ => ⟨u0, t10, x40 (fun τ w => ⟨t10, hn _ τ (UK_t h w)⟩)⟩⟩⟩⟩⟩⟩
theorem x38 {σ : gS} {P : gS → Prop} {n : Int32} (h : UK σ P) : gXv 38 [some (.ref 5), some (.int n), none, none] σ P := by
  have a0 : ∀ b σ, UK σ P → gE 38 5 [some (.ref 5), some (.int n), some (.int b), some (.int 0)] [] σ (fun r σ1 => r = none ∧ P σ1) := fun b σ h => v38 ⟨fun _ => ⟨rfl, h σ (Uw_r σ)⟩, fun z => absurd z (by decide)⟩
  have a1 := y38 (u := 1) (by decide) (by decide) a0
  have a2 := y38 (u := 10) (by decide) (by decide) a1
  have a3 := y38 (u := 100) (by decide) (by decide) a2
  have a4 := y38 (u := 1000) (by decide) (by decide) a3
  have a5 := y38 (u := 10000) (by decide) (by decide) a4
  have a6 := y38 (u := 100000) (by decide) (by decide) a5
  exact w38 (a6 _ σ h)
set_option maxRecDepth 20000 in
theorem w35 {σ : gS} {K : gK} {w : Nat} (h : gXv 39 [some (.ref 5), some (.ref 1000013), none] σ (fun s1 => gTv w ∧ gXv 38 [some (.ref 5), some (.int (s1 w 1)), none, none] s1 (fun s2 => gXv 40 [some (.ref 5), some (.int 32)] s2 (fun s3 => gE 35 22 [some (.ref 5), some (.ref w), some (.int 0)] [] s3 K)))) : gE 35 0 [some (.ref 5), some (.ref w), none] [] σ K :=
  gw_run (cy := 35) (cuts := [22, 55, 69, 80, 90, 100, 142, 153, 165]) (inl := [36, 37]) (pf := gpek) gpek_ok 400 (by decide) h
set_option maxRecDepth 20000 in
theorem c35_22 {σ : gS} {K : gK} {l2 : Int32} {l1 : Nat} (h : ((¬ l2 < 5 → gE 35 55 [some (.ref 5), some (.ref l1), some (.int l2)] [] σ K) ∧ (l2 < 5 → gTv l1 ∧ (gTv l1) ∧ ((¬ 0 < (if l2 < 5 then (σ l1 0 >>> ((5 * l2) &&& 31)) &&& 31 else 0) → gE 35 55 [some (.ref 5), some (.ref l1), some (.int l2)] [] σ K) ∧ (0 < (if l2 < 5 then (σ l1 0 >>> ((5 * l2) &&& 31)) &&& 31 else 0) → gTv l1 ∧ (gTv l1) ∧ gXv 40 [some (.ref 5), some (.int ((97 + (if l2 < 5 then (σ l1 0 >>> ((5 * l2) &&& 31)) &&& 31 else 0)) - 1))] σ (fun s1 => gE 35 22 [some (.ref 5), some (.ref l1), some (.int (l2 + 1))] [] s1 K)))))) : gE 35 22 [some (.ref 5), some (.ref l1), some (.int l2)] [] σ K :=
  gw_run (cy := 35) (cuts := [22, 55, 69, 80, 90, 100, 142, 153, 165]) (inl := [36, 37]) (pf := gpek) gpek_ok 400 (by decide) h
set_option maxRecDepth 20000 in
theorem c35_55 {σ : gS} {K : gK} {l2 : Int32} {l1 : Nat} (h : gTv l1 ∧ ((¬ (σ l1 2) = 1 → gE 35 69 [some (.ref 5), some (.ref l1), some (.int l2)] [] σ K) ∧ ((σ l1 2) = 1 → gXv 39 [some (.ref 5), some (.ref 1000014), none] σ (fun s1 => gE 35 69 [some (.ref 5), some (.ref l1), some (.int l2)] [] s1 K)))) : gE 35 55 [some (.ref 5), some (.ref l1), some (.int l2)] [] σ K :=
  gw_run (cy := 35) (cuts := [22, 55, 69, 80, 90, 100, 142, 153, 165]) (inl := [36, 37]) (pf := gpek) gpek_ok 400 (by decide) h
set_option maxRecDepth 20000 in
theorem c35_69 {σ : gS} {K : gK} {l2 : Int32} {l1 : Nat} (h : gTv l1 ∧ (((σ l1 3) = 0 → gE 35 80 [some (.ref 5), some (.ref l1), some (.int l2)] [] σ K) ∧ (¬ (σ l1 3) = 0 → gXv 39 [some (.ref 5), some (.ref 1000015), none] σ (fun s1 => gXv 38 [some (.ref 5), some (.int (σ l1 3)), none, none] s1 (fun s2 => gE 35 80 [some (.ref 5), some (.ref l1), some (.int l2)] [] s2 K))))) : gE 35 69 [some (.ref 5), some (.ref l1), some (.int l2)] [] σ K :=
  gw_run (cy := 35) (cuts := [22, 55, 69, 80, 90, 100, 142, 153, 165]) (inl := [36, 37]) (pf := gpek) gpek_ok 400 (by decide) h
set_option maxRecDepth 20000 in
theorem c35_80 {σ : gS} {K : gK} {l2 : Int32} {l1 : Nat} (h : gTv l1 ∧ (((σ l1 4) = 0 → gE 35 90 [some (.ref 5), some (.ref l1), some (.int l2)] [] σ K) ∧ (¬ (σ l1 4) = 0 → gXv 39 [some (.ref 5), some (.ref 1000016), none] σ (fun s1 => ((¬ 0 < (σ l1 4) → gXv 40 [some (.ref 5), some (.int 45)] s1 (fun s2 => gXv 38 [some (.ref 5), some (.int (if (σ l1 4) < 0 then -(σ l1 4) else (σ l1 4))), none, none] s2 (fun s3 => gE 35 90 [some (.ref 5), some (.ref l1), some (.int l2)] [] s3 K))) ∧ (0 < (σ l1 4) → gXv 40 [some (.ref 5), some (.int 43)] s1 (fun s4 => gXv 38 [some (.ref 5), some (.int (if (σ l1 4) < 0 then -(σ l1 4) else (σ l1 4))), none, none] s4 (fun s5 => gE 35 90 [some (.ref 5), some (.ref l1), some (.int l2)] [] s5 K)))))))) : gE 35 80 [some (.ref 5), some (.ref l1), some (.int l2)] [] σ K :=
  gw_run (cy := 35) (cuts := [22, 55, 69, 80, 90, 100, 142, 153, 165]) (inl := [36, 37]) (pf := gpek) gpek_ok 400 (by decide) h
set_option maxRecDepth 20000 in
theorem c35_90 {σ : gS} {K : gK} {l2 : Int32} {l1 : Nat} (h : gTv l1 ∧ (((σ l1 5) = 0 → gE 35 100 [some (.ref 5), some (.ref l1), some (.int l2)] [] σ K) ∧ (¬ (σ l1 5) = 0 → gXv 39 [some (.ref 5), some (.ref 1000017), none] σ (fun s1 => ((¬ 0 < (σ l1 5) → gXv 40 [some (.ref 5), some (.int 45)] s1 (fun s2 => gXv 38 [some (.ref 5), some (.int (if (σ l1 5) < 0 then -(σ l1 5) else (σ l1 5))), none, none] s2 (fun s3 => gE 35 100 [some (.ref 5), some (.ref l1), some (.int l2)] [] s3 K))) ∧ (0 < (σ l1 5) → gXv 40 [some (.ref 5), some (.int 43)] s1 (fun s4 => gXv 38 [some (.ref 5), some (.int (if (σ l1 5) < 0 then -(σ l1 5) else (σ l1 5))), none, none] s4 (fun s5 => gE 35 100 [some (.ref 5), some (.ref l1), some (.int l2)] [] s5 K)))))))) : gE 35 90 [some (.ref 5), some (.ref l1), some (.int l2)] [] σ K :=
  gw_run (cy := 35) (cuts := [22, 55, 69, 80, 90, 100, 142, 153, 165]) (inl := [36, 37]) (pf := gpek) gpek_ok 400 (by decide) h
set_option maxRecDepth 20000 in
theorem c35_100 {σ : gS} {K : gK} {l2 : Int32} {l1 : Nat} (h : gTv l1 ∧ ((0 < (σ l1 6) → gXv 39 [some (.ref 5), some (.ref 1000018), none] σ (fun s1 => gTv l1 ∧ gXv 38 [some (.ref 5), some (.int (s1 l1 6)), none, none] s1 (fun s2 => gXv 40 [some (.ref 5), some (.int 32)] s2 (fun s3 => gTv l1 ∧ gXv 38 [some (.ref 5), some (.int (s3 l1 7)), none, none] s3 (fun s4 => gE 35 142 [some (.ref 5), some (.ref l1), some (.int l2)] [] s4 K))))) ∧ (¬ 0 < (σ l1 6) → gTv l1 ∧ ((¬ 0 < (σ l1 7) → gE 35 142 [some (.ref 5), some (.ref l1), some (.int l2)] [] σ K) ∧ (0 < (σ l1 7) → gXv 39 [some (.ref 5), some (.ref 1000018), none] σ (fun s5 => gTv l1 ∧ gXv 38 [some (.ref 5), some (.int (s5 l1 6)), none, none] s5 (fun s6 => gXv 40 [some (.ref 5), some (.int 32)] s6 (fun s7 => gTv l1 ∧ gXv 38 [some (.ref 5), some (.int (s7 l1 7)), none, none] s7 (fun s8 => gE 35 142 [some (.ref 5), some (.ref l1), some (.int l2)] [] s8 K))))))))) : gE 35 100 [some (.ref 5), some (.ref l1), some (.int l2)] [] σ K :=
  gw_run (cy := 35) (cuts := [22, 55, 69, 80, 90, 100, 142, 153, 165]) (inl := [36, 37]) (pf := gpek) gpek_ok 400 (by decide) h
set_option maxRecDepth 20000 in
theorem c35_142 {σ : gS} {K : gK} {l2 : Int32} {l1 : Nat} (h : gTv l1 ∧ (((σ l1 8) = 0 → gE 35 153 [some (.ref 5), some (.ref l1), some (.int l2)] [] σ K) ∧ (¬ (σ l1 8) = 0 → gXv 39 [some (.ref 5), some (.ref 1000019), none] σ (fun s1 => gXv 38 [some (.ref 5), some (.int (σ l1 8)), none, none] s1 (fun s2 => gE 35 153 [some (.ref 5), some (.ref l1), some (.int l2)] [] s2 K))))) : gE 35 142 [some (.ref 5), some (.ref l1), some (.int l2)] [] σ K :=
  gw_run (cy := 35) (cuts := [22, 55, 69, 80, 90, 100, 142, 153, 165]) (inl := [36, 37]) (pf := gpek) gpek_ok 400 (by decide) h
set_option maxRecDepth 20000 in
theorem c35_153 {σ : gS} {K : gK} {l2 : Int32} {l1 : Nat} (h : gTv l1 ∧ (((σ l1 9) = 99 → gE 35 165 [some (.ref 5), some (.ref l1), some (.int l2)] [] σ K) ∧ (¬ (σ l1 9) = 99 → gXv 39 [some (.ref 5), some (.ref 1000020), none] σ (fun s1 => gXv 38 [some (.ref 5), some (.int (σ l1 9)), none, none] s1 (fun s2 => gE 35 165 [some (.ref 5), some (.ref l1), some (.int l2)] [] s2 K))))) : gE 35 153 [some (.ref 5), some (.ref l1), some (.int l2)] [] σ K :=
  gw_run (cy := 35) (cuts := [22, 55, 69, 80, 90, 100, 142, 153, 165]) (inl := [36, 37]) (pf := gpek) gpek_ok 400 (by decide) h
set_option maxRecDepth 20000 in
theorem c35_165 {σ : gS} {K : gK} {l2 : Int32} {l1 : Nat} (h : gXv 40 [some (.ref 5), some (.int 59)] σ (fun s1 => K none s1)) : gE 35 165 [some (.ref 5), some (.ref l1), some (.int l2)] [] σ K :=
  gw_run (cy := 35) (cuts := [22, 55, 69, 80, 90, 100, 142, 153, 165]) (inl := [36, 37]) (pf := gpek) gpek_ok 400 (by decide) h
theorem x35 {σ : gS} {P : gS → Prop} {w : Nat} (hw : gTv w) (h : UK σ P) : gXv 35 [some (.ref 5), some (.ref w), none] σ P := by
  have a165 : ∀ i σ, UK σ P → gE 35 165 [some (.ref 5), some (.ref w), some (.int i)] [] σ (fun r σ1 => r = none ∧ P σ1) := fun i σ h => c35_165 (x40 (fun τ u => ⟨rfl, h τ u⟩))
  have a153 : ∀ i σ, UK σ P → gE 35 153 [some (.ref 5), some (.ref w), some (.int i)] [] σ (fun r σ1 => r = none ∧ P σ1) := fun i σ h => c35_153 ⟨hw, fun _ => a165 i σ h, fun _ => x39_1000020 (fun τ u => x38 (fun τ2 u2 => a165 i τ2 (UK_t h (Uw_t u u2))))⟩
  have a142 : ∀ i σ, UK σ P → gE 35 142 [some (.ref 5), some (.ref w), some (.int i)] [] σ (fun r σ1 => r = none ∧ P σ1) := fun i σ h => c35_142 ⟨hw, fun _ => a153 i σ h, fun _ => x39_1000019 (fun τ u => x38 (fun τ2 u2 => a153 i τ2 (UK_t h (Uw_t u u2))))⟩
  have r : ∀ i σ, UK σ P → gXv 39 [some (.ref 5), some (.ref 1000018), none] σ (fun s1 => gTv w ∧ gXv 38 [some (.ref 5), some (.int (s1 w 6)), none, none] s1 (fun s2 => gXv 40 [some (.ref 5), some (.int 32)] s2 (fun s3 => gTv w ∧ gXv 38 [some (.ref 5), some (.int (s3 w 7)), none, none] s3 (fun s4 => gE 35 142 [some (.ref 5), some (.ref w), some (.int i)] [] s4 (fun r σ1 => r = none ∧ P σ1))))) := fun i σ h => x39_1000018 (fun τ u => ⟨hw, x38 (fun τ2 u2 => x40 (fun τ3 u3 => ⟨hw, x38 (fun τ4 u4 => a142 i τ4 (UK_t h (Uw_t u (Uw_t u2 (Uw_t u3 u4)))))⟩))⟩)
  have a100 : ∀ i σ, UK σ P → gE 35 100 [some (.ref 5), some (.ref w), some (.int i)] [] σ (fun r σ1 => r = none ∧ P σ1) := fun i σ h => c35_100 ⟨hw, fun _ => r i σ h, fun _ => ⟨hw, fun _ => a142 i σ h, fun _ => r i σ h⟩⟩
  have a90 : ∀ i σ, UK σ P → gE 35 90 [some (.ref 5), some (.ref w), some (.int i)] [] σ (fun r σ1 => r = none ∧ P σ1) := fun i σ h => c35_90 ⟨hw, fun _ => a100 i σ h, fun _ => x39_1000017 (fun τ u => ⟨fun _ => x40 (fun τ2 u2 => x38 (fun τ3 u3 => a100 i τ3 (UK_t h (Uw_t u (Uw_t u2 u3))))), fun _ => x40 (fun τ2 u2 => x38 (fun τ3 u3 => a100 i τ3 (UK_t h (Uw_t u (Uw_t u2 u3)))))⟩)⟩
  have a80 : ∀ i σ, UK σ P → gE 35 80 [some (.ref 5), some (.ref w), some (.int i)] [] σ (fun r σ1 => r = none ∧ P σ1) := fun i σ h => c35_80 ⟨hw, fun _ => a90 i σ h, fun _ => x39_1000016 (fun τ u => ⟨fun _ => x40 (fun τ2 u2 => x38 (fun τ3 u3 => a90 i τ3 (UK_t h (Uw_t u (Uw_t u2 u3))))), fun _ => x40 (fun τ2 u2 => x38 (fun τ3 u3 => a90 i τ3 (UK_t h (Uw_t u (Uw_t u2 u3)))))⟩)⟩
  have a69 : ∀ i σ, UK σ P → gE 35 69 [some (.ref 5), some (.ref w), some (.int i)] [] σ (fun r σ1 => r = none ∧ P σ1) := fun i σ h => c35_69 ⟨hw, fun _ => a80 i σ h, fun _ => x39_1000015 (fun τ u => x38 (fun τ2 u2 => a80 i τ2 (UK_t h (Uw_t u u2))))⟩
  have a55 : ∀ i σ, UK σ P → gE 35 55 [some (.ref 5), some (.ref w), some (.int i)] [] σ (fun r σ1 => r = none ∧ P σ1) := fun i σ h => c35_55 ⟨hw, fun _ => a69 i σ h, fun _ => x39_1000014 (fun τ u => a69 i τ (UK_t h u))⟩
  have a22 : ∀ d k, k + d = 5 → ∀ σ, UK σ P → gE 35 22 [some (.ref 5), some (.ref w), some (.int (iN k))] [] σ (fun r σ1 => r = none ∧ P σ1) := by
    intro d
    induction d with
    | zero =>
      intro k hk σ h
      have : k = 5 := by omega
      subst this
      exact c35_22 ⟨fun _ => a55 _ σ h, fun z => absurd z (by decide)⟩
    | succ d ih =>
      intro k hk σ h
      refine c35_22 ⟨fun _ => a55 _ σ h, fun _ => ⟨hw, hw, fun _ => a55 _ σ h, fun _ => ⟨hw, hw, x40 (fun τ u => ?_)⟩⟩⟩
      rw [iN_one]
      exact ih (k + 1) (by omega) τ (UK_t h u)
  exact w35 (x39_1000013 (fun τ u => ⟨hw, x38 (fun τ2 u2 => x40 (fun τ3 u3 => a22 5 0 rfl τ3 (UK_t h (Uw_t u (Uw_t u2 u3)))))⟩))
set_option maxRecDepth 20000 in
theorem w34 {σ : gS} {K : gK} {p : Int32} (h : gXv 39 [some (.ref 5), some (.ref 1000011), none] (gup (gup (gup σ 5 0 0) 5 1 p) 5 2 (-2)) (fun s1 => gE 34 22 [some (.ref 5), some (.ref 6), some (.int p), none] [] s1 K)) : gE 34 0 [some (.ref 5), some (.ref 6), some (.int p), none] [] σ K :=
  gw_run (cy := 34) (cuts := [22, 30, 36, 44, 52]) (inl := []) (pf := gpek) gpek_ok 400 (by decide) h
set_option maxRecDepth 20000 in
theorem c34_22 {σ : gS} {K : gK} {l2 : Int32} (h : gXv 38 [some (.ref 5), some (.int (σ 6 4)), none, none] σ (fun s1 => gE 34 30 [some (.ref 5), some (.ref 6), some (.int l2), none] [] s1 K)) : gE 34 22 [some (.ref 5), some (.ref 6), some (.int l2), none] [] σ K :=
  gw_run (cy := 34) (cuts := [22, 30, 36, 44, 52]) (inl := []) (pf := gpek) gpek_ok 400 (by decide) h
set_option maxRecDepth 20000 in
theorem c34_30 {σ : gS} {K : gK} {l2 : Int32} (h : gXv 39 [some (.ref 5), some (.ref 1000012), none] σ (fun s1 => gE 34 36 [some (.ref 5), some (.ref 6), some (.int l2), none] [] s1 K)) : gE 34 30 [some (.ref 5), some (.ref 6), some (.int l2), none] [] σ K :=
  gw_run (cy := 34) (cuts := [22, 30, 36, 44, 52]) (inl := []) (pf := gpek) gpek_ok 400 (by decide) h
set_option maxRecDepth 20000 in
theorem c34_36 {σ : gS} {K : gK} {l2 : Int32} (h : gXv 38 [some (.ref 5), some (.int (σ 6 5)), none, none] σ (fun s1 => gE 34 44 [some (.ref 5), some (.ref 6), some (.int l2), none] [] s1 K)) : gE 34 36 [some (.ref 5), some (.ref 6), some (.int l2), none] [] σ K :=
  gw_run (cy := 34) (cuts := [22, 30, 36, 44, 52]) (inl := []) (pf := gpek) gpek_ok 400 (by decide) h
set_option maxRecDepth 20000 in
theorem c34_44 {σ : gS} {K : gK} {l2 : Int32} (h : gXv 40 [some (.ref 5), some (.int 59)] σ (fun s1 => gE 34 52 [some (.ref 5), some (.ref 6), some (.int l2), some (.int 0)] [] s1 K)) : gE 34 44 [some (.ref 5), some (.ref 6), some (.int l2), none] [] σ K :=
  gw_run (cy := 34) (cuts := [22, 30, 36, 44, 52]) (inl := []) (pf := gpek) gpek_ok 400 (by decide) h
set_option maxRecDepth 20000 in
theorem c34_52 {σ : gS} {K : gK} {l2 l3 : Int32} (h : ((¬ l3 < (σ 6 7) → K none σ) ∧ (l3 < (σ 6 7) → (0 ≤ l3 ∧ l3 < 20) ∧ gXv 35 [some (.ref 5), some (.ref (6 + 2 + l3.toNatClampNeg)), none] σ (fun s1 => gE 34 52 [some (.ref 5), some (.ref 6), some (.int l2), some (.int (l3 + 1))] [] s1 K)))) : gE 34 52 [some (.ref 5), some (.ref 6), some (.int l2), some (.int l3)] [] σ K :=
  gw_run (cy := 34) (cuts := [22, 30, 36, 44, 52]) (inl := []) (pf := gpek) gpek_ok 400 (by decide) h
set_option maxRecDepth 20000 in
theorem w145 {σ : gS} {K : gK} (h : gXv 34 [some (.ref 5), some (.ref 6), some (.int (-2)), none] σ (fun s1 => K (some (.int (s1 5 0))) s1)) : gE 145 0 [some (.ref 0)] [] σ K :=
  gw_run (cy := 145) (cuts := []) (inl := []) (pf := gpek) gpek_ok 400 (by decide) h
set_option maxRecDepth 20000 in
theorem w146 {σ : gS} {K : gK} {i : Int32} (h : ((¬ i < 0 → gXv 34 [some (.ref 5), some (.ref 6), some (.int i), none] σ (fun s1 => K (some (.int (s1 5 2))) s1)) ∧ (i < 0 → K (some (.int (-1))) σ))) : gE 146 0 [some (.ref 0), some (.int i)] [] σ K :=
  gw_run (cy := 146) (cuts := []) (inl := []) (pf := gpek) gpek_ok 400 (by decide) h
theorem x34 {σ : gS} {P : gS → Prop} {p : Int32} (h3 : 0 ≤ cR σ 6 3 ∧ cR σ 6 3 ≤ 20) (h : UK σ P) : gXv 34 [some (.ref 5), some (.ref 6), some (.int p), none] σ P := by
  obtain ⟨R, hR⟩ : ∃ R, cR σ 6 = R := ⟨_, rfl⟩
  rw [hR] at h3
  have hn := (nM_of h3).2
  have e7 : ∀ τ, Uw σ τ → τ 6 7 = R 3 := fun τ u => by rw [u 6 (by decide), ← hR, cR_3]
  have a52 : ∀ d k, k + d = nM R → ∀ τ, Uw σ τ → gE 34 52 [some (.ref 5), some (.ref 6), some (.int p), some (.int (iN k))] [] τ (fun r σ1 => r = none ∧ P σ1) := by
    intro d
    induction d with
    | zero =>
      intro k hk τ u
      refine c34_52 ⟨fun _ => ⟨rfl, h τ u⟩, fun z => ?_⟩
      rw [e7 τ u, nM_lt h3 (by omega)] at z
      omega
    | succ d ih =>
      intro k hk τ u
      refine c34_52 ⟨fun z => ?_, fun _ => ⟨b20 (by omega), ?_⟩⟩
      · rw [e7 τ u, nM_lt h3 (by omega)] at z
        omega
      · rw [iN_nat (by omega), iN_one]
        exact x35 (tv_6 k (by omega)) (fun τ2 u2 => ih (k + 1) (by omega) τ2 (Uw_t u u2))
  exact w34 (x39_1000011 (fun τ u => c34_22 (x38 (fun τ2 u2 => c34_30 (x39_1000012 (fun τ3 u3 => c34_36 (x38 (fun τ4 u4 => c34_44 (x40 (fun τ5 u5 => a52 (nM R) 0 (by omega) τ5 (Uw_t (Uw_t (Uw_g (Uw_g (Uw_g (Uw_r σ)))) u) (Uw_t u2 (Uw_t u3 (Uw_t u4 u5))))))))))))))
theorem x145 {σ : gS} {P : Int32 → gS → Prop} (h3 : 0 ≤ cR σ 6 3 ∧ cR σ 6 3 ≤ 20) (h : ∀ x τ, Uw σ τ → P x τ) : gXi 145 [some (.ref 0)] σ P :=
  w145 (x34 h3 (fun τ u => ⟨_, rfl, h _ τ u⟩))
theorem x146 {σ : gS} {P : Int32 → gS → Prop} {i : Int32} (h3 : 0 ≤ cR σ 6 3 ∧ cR σ 6 3 ≤ 20) (h : ∀ x τ, Uw σ τ → P x τ) : gXi 146 [some (.ref 0), some (.int i)] σ P :=
  w146 ⟨fun _ => x34 h3 (fun τ u => ⟨_, rfl, h _ τ u⟩), fun _ => ⟨_, rfl, h _ σ (Uw_r σ)⟩⟩
theorem fWho_w {R : gW} {x : Int32} (h : 0 ≤ R 3 ∧ R 3 ≤ 20) (hw : ¬ fWho R x = -2) : (0 ≤ fWho R x ∧ fWho R x < 20) ∧ (fWho R x).toNatClampNeg < nM R := by
  have hn := (nM_of h).2
  have key : ∀ n, n ≤ 20 → (fnd (fun t => decide (fld R t 0 = x)) n = -2 ∨ ∃ k, k < n ∧ fnd (fun t => decide (fld R t 0 = x)) n = iN k) := by
    intro n
    induction n with
    | zero => intro _; exact Or.inl rfl
    | succ n ih =>
      intro hn
      rcases ih (by omega) with e | ⟨k, hk, e⟩
      · by_cases q : decide (fld R n 0 = x) = true
        · refine Or.inr ⟨n, by omega, ?_⟩
          show (if _ then _ else _) = _
          rw [if_pos e, if_pos q]
        · refine Or.inl ?_
          show (if _ then _ else _) = _
          rw [if_pos e, if_neg q]
      · refine Or.inr ⟨k, by omega, ?_⟩
        show (if _ then _ else _) = _
        rw [if_neg (by rw [e]; exact iN_ne (by omega)), e]
  rcases key (nM R) hn with e | ⟨k, hk, e⟩
  · exact absurd e hw
  · have e : fWho R x = iN k := e
    rw [e, iN_nat (by omega)]
    exact ⟨b20 (by omega), hk⟩
/-- a seat's sign -/
noncomputable def sgn (R : gW) (nm : Nat → Int32) (x : Int32) : Int32 := if fWho R x = -2 then 46 else (if fJo R (fWho R x).toNatClampNeg < 0 then 65 else 97) + nm (fWho R x).toNatClampNeg - 1
noncomputable def plS (R : gW) (nm : Nat → Int32) (r c : Int32) : Int32 := if c = 0 then (if r < R 1 then 61 else 45) else if c = 1 then (if isFwd r then 62 else 60) else if c = 6 then 10 else sgn R nm (r * 4 + c - 2)
noncomputable def aPb (R : gW) (nm : Nat → Int32) (i : Int32) : Int32 := if i < 0 then -1 else if i < R 0 * 7 then plS R nm (i / 7) (i - i / 7 * 7) else -2
noncomputable def cLt (σ : gS) (t : Nat) : Int32 := (σ (8 + t) 0 >>> ((5 * (0 : Int32)) &&& 31)) &&& 31
set_option maxRecDepth 20000 in
theorem w143 {σ : gS} {K : gK} (h : K (some (.int ((σ 6 4) * 7))) σ) : gE 143 0 [some (.ref 0)] [] σ K :=
  gw_run (cy := 143) (cuts := []) (inl := []) (pf := gpek) gpek_ok 400 (by decide) h
theorem s143 {σ : gS} {K : gK} (hK : K (some (.int (cR σ 6 0 * 7))) σ) : gE 143 0 [some (.ref 0)] [] σ K := by
  rw [cR_0] at hK
  exact w143 hK
noncomputable def f143 : gD := fun Lv σ => match Lv with
  | [some (.ref q0)] => cond (Nat.beq q0 0) (some (none, some (.int (cR σ 6 0 * 7)), σ)) none
  | _ => none
theorem ok143 : gFok 143 f143 := by
  intro Lv σ q h hc K hK
  unfold f143 at h
  split at h
  · rename_i q0
    obtain ⟨hb, h⟩ := c_no h
    have hb0 := hb
    have e0 := b_eq hb0
    subst e0
    cases h
    exact s143 hK
  · cases h
set_option maxRecDepth 20000 in
theorem w100 {σ : gS} {K : gK} {x : Int32} (h : (0 ≤ σ 6 7 ∧ σ 6 7 ≤ 20) ∧ ((¬ (fWho (cR σ 6) x) = (-2) → (((0 ≤ (fWho (cR σ 6) x) ∧ (fWho (cR σ 6) x) < 20) ∧ (fWho (cR σ 6) x).toNatClampNeg < nM (cR σ 6)) ∧ TC σ 6) ∧ ((¬ (fJo (cR σ 6) (fWho (cR σ 6) x).toNatClampNeg) < 0 → (0 ≤ (fWho (cR σ 6) x) ∧ (fWho (cR σ 6) x) < 20) ∧ gTv (6 + 2 + (fWho (cR σ 6) x).toNatClampNeg) ∧ (gTv (6 + 2 + (fWho (cR σ 6) x).toNatClampNeg)) ∧ K (some (.int ((97 + (if (0 : Int32) < 5 then (σ (6 + 2 + (fWho (cR σ 6) x).toNatClampNeg) 0 >>> ((5 * (0 : Int32)) &&& 31)) &&& 31 else 0)) - 1))) σ) ∧ ((fJo (cR σ 6) (fWho (cR σ 6) x).toNatClampNeg) < 0 → (0 ≤ (fWho (cR σ 6) x) ∧ (fWho (cR σ 6) x) < 20) ∧ gTv (6 + 2 + (fWho (cR σ 6) x).toNatClampNeg) ∧ (gTv (6 + 2 + (fWho (cR σ 6) x).toNatClampNeg)) ∧ K (some (.int ((65 + (if (0 : Int32) < 5 then (σ (6 + 2 + (fWho (cR σ 6) x).toNatClampNeg) 0 >>> ((5 * (0 : Int32)) &&& 31)) &&& 31 else 0)) - 1))) σ))) ∧ ((fWho (cR σ 6) x) = (-2) → K (some (.int 46)) σ))) : gE 100 0 [some (.ref 6), some (.int x), none] [] σ K :=
  gw_run (cy := 100) (cuts := []) (inl := []) (pf := gpek) gpek_ok 400 (by decide) h
theorem s100 {σ : gS} {K : gK} {x : Int32} (hc : SC σ) (hK : K (some (.int (sgn (cR σ 6) (cLt σ) x))) σ) : gE 100 0 [some (.ref 6), some (.int x), none] [] σ K := by
  obtain ⟨hT, hP, hL, h0⟩ := hc
  have h7 : 0 ≤ σ 6 7 ∧ σ 6 7 ≤ 20 := SC_7 ⟨hT, hP, hL, h0⟩
  unfold sgn at hK
  refine w100 ⟨h7, fun h => ?_, fun h => ?_⟩
  · rw [if_neg h] at hK
    have hw := fWho_w (R := cR σ 6) hT.1 h
    have lt := n20 hw.1
    have tv := tv_6 _ lt
    refine ⟨⟨hw, hT⟩, fun h2 => ⟨hw.1, tv, tv, ?_⟩, fun h2 => ⟨hw.1, tv, tv, ?_⟩⟩
    · rw [if_neg h2] at hK
      rw [if_pos (show (0 : Int32) < 5 by decide)]
      exact hK
    · rw [if_pos h2] at hK
      rw [if_pos (show (0 : Int32) < 5 by decide)]
      exact hK
  · rw [if_pos h] at hK; exact hK
noncomputable def f100 : gD := fun Lv σ => match Lv with
  | [some (.ref q0), some (.int x), none] => cond (Nat.beq q0 6) (some (some (SC σ), some (.int (sgn (cR σ 6) (cLt σ) x)), σ)) none
  | _ => none
theorem ok100 : gFok 100 f100 := by
  intro Lv σ q h hc K hK
  unfold f100 at h
  split at h
  · rename_i q0 x
    obtain ⟨hb, h⟩ := c_no h
    have hb0 := hb
    have e0 := b_eq hb0
    subst e0
    cases h
    exact s100 (hc _ rfl) hK
  · cases h
noncomputable def gpel_l : List (Nat × gD) := (143, f143) :: (100, f100) :: gpek_l
noncomputable def gpel : gP := gpl0 gpel_l
theorem gpel_ok : gPok gpel := gpl0_cons ok143 (gpl0_cons ok100 (gpek_ok))
set_option maxRecDepth 20000 in
theorem w99 {σ : gS} {K : gK} {r c : Int32} (h : ((c = 0 → ((¬ r < (σ 6 5) → K (some (.int 45)) σ) ∧ (r < (σ 6 5) → K (some (.int 61)) σ))) ∧ (¬ c = 0 → ((c = 1 → (((bI (isFwd r)) = 0 → K (some (.int 60)) σ) ∧ (¬ (bI (isFwd r)) = 0 → K (some (.int 62)) σ))) ∧ (¬ c = 1 → ((c = 6 → K (some (.int 10)) σ) ∧ (¬ c = 6 → (SC σ) ∧ K (some (.int (sgn (cR σ 6) (cLt σ) (((r * 4) + c) - 2)))) σ))))))) : gE 99 0 [some (.ref 6), some (.int r), some (.int c)] [] σ K :=
  gw_run (cy := 99) (cuts := []) (inl := []) (pf := gpel) gpel_ok 400 (by decide) h
theorem s99 {σ : gS} {K : gK} {r c : Int32} (hc : SC σ) (hK : K (some (.int (plS (cR σ 6) (cLt σ) r c))) σ) : gE 99 0 [some (.ref 6), some (.int r), some (.int c)] [] σ K := by
  unfold plS at hK
  rw [cR_1] at hK
  refine w99 ⟨fun h => ⟨fun h2 => ?_, fun h2 => ?_⟩, fun h => ⟨fun h2 => ⟨fun h3 => ?_, fun h3 => ?_⟩, fun h2 => ⟨fun h3 => ?_, fun h3 => ⟨hc, ?_⟩⟩⟩⟩
  · rw [if_pos h, if_neg h2] at hK; exact hK
  · rw [if_pos h, if_pos h2] at hK; exact hK
  · rw [if_neg h, if_pos h2, if_neg (bI_0.mp h3)] at hK; exact hK
  · rw [if_neg h, if_pos h2, if_pos (dnn h3)] at hK; exact hK
  · rw [if_neg h, if_neg h2, if_pos h3] at hK; exact hK
  · rw [if_neg h, if_neg h2, if_neg h3] at hK; exact hK
noncomputable def f99 : gD := fun Lv σ => match Lv with
  | [some (.ref q0), some (.int r), some (.int c)] => cond (Nat.beq q0 6) (some (some (SC σ), some (.int (plS (cR σ 6) (cLt σ) r c)), σ)) none
  | _ => none
theorem ok99 : gFok 99 f99 := by
  intro Lv σ q h hc K hK
  unfold f99 at h
  split at h
  · rename_i q0 r c
    obtain ⟨hb, h⟩ := c_no h
    have hb0 := hb
    have e0 := b_eq hb0
    subst e0
    cases h
    exact s99 (hc _ rfl) hK
  · cases h
noncomputable def gpem_l : List (Nat × gD) := (99, f99) :: gpel_l
noncomputable def gpem : gP := gpl0 gpem_l
theorem gpem_ok : gPok gpem := gpl0_cons ok99 (gpel_ok)
set_option maxRecDepth 20000 in
theorem w144 {σ : gS} {K : gK} {i : Int32} (h : ((¬ i < 0 → ((¬ i < (cR σ 6 0 * 7) → K (some (.int (-2))) σ) ∧ (i < (cR σ 6 0 * 7) → (7 : Int32) ≠ 0 ∧ (7 : Int32) ≠ 0 ∧ (SC σ) ∧ K (some (.int (plS (cR σ 6) (cLt σ) (i / 7) (i - i / 7 * 7)))) σ))) ∧ (i < 0 → K (some (.int (-1))) σ))) : gE 144 0 [some (.ref 0), some (.int i)] [] σ K :=
  gw_run (cy := 144) (cuts := []) (inl := []) (pf := gpem) gpem_ok 400 (by decide) h
theorem s144 {σ : gS} {K : gK} {i : Int32} (hc : SC σ) (hK : K (some (.int (aPb (cR σ 6) (cLt σ) i))) σ) : gE 144 0 [some (.ref 0), some (.int i)] [] σ K := by
  unfold aPb at hK
  refine w144 ⟨fun h => ⟨fun h2 => ?_, fun h2 => ⟨by decide, by decide, hc, ?_⟩⟩, fun h => ?_⟩
  · rw [if_neg h, if_neg h2] at hK; exact hK
  · rw [if_neg h, if_pos h2] at hK; exact hK
  · rw [if_pos h] at hK; exact hK
noncomputable def f144 : gD := fun Lv σ => match Lv with
  | [some (.ref q0), some (.int i)] => cond (Nat.beq q0 0) (some (some (SC σ), some (.int (aPb (cR σ 6) (cLt σ) i)), σ)) none
  | _ => none
theorem ok144 : gFok 144 f144 := by
  intro Lv σ q h hc K hK
  unfold f144 at h
  split at h
  · rename_i q0 i
    obtain ⟨hb, h⟩ := c_no h
    have hb0 := hb
    have e0 := b_eq hb0
    subst e0
    cases h
    exact s144 (hc _ rfl) hK
  · cases h
noncomputable def gpen_l : List (Nat × gD) := (144, f144) :: gpem_l
noncomputable def gpen : gP := gpl0 gpen_l
theorem gpen_ok : gPok gpen := gpl0_cons ok144 (gpem_ok)
end
section
-- text 108
/-! THE REFERENCE: the setup text is written -/
/-- what the writer leaves: at most b bytes are written, nothing else is touched -/
noncomputable def Wb (σ : gS) (b : Nat) (τ : gS) : Prop := (∀ q, ¬ q = 323 → ¬ q = 331 → τ q = σ q) ∧ (∀ j, ¬ j = 17 → τ 323 j = σ 323 j) ∧ ∃ v, v ≤ b ∧ τ 323 17 = iN v
noncomputable def Wf (σ τ : gS) : Prop := (∀ q, ¬ q = 323 → ¬ q = 331 → τ q = σ q) ∧ ∀ j, ¬ j = 17 → τ 323 j = σ 323 j
theorem Wb_f {σ τ : gS} {b : Nat} (h : Wb σ b τ) : Wf σ τ := ⟨h.1, h.2.1⟩
theorem Wb_m {σ τ : gS} {b b' : Nat} (h : Wb σ b τ) (hb : b ≤ b') : Wb σ b' τ := by
  obtain ⟨h1, h2, v, hv, e⟩ := h
  exact ⟨h1, h2, v, by omega, e⟩
set_option maxRecDepth 20000 in
theorem w253 {σ : gS} {K : gK} {x : Int32} (h : (0 ≤ (σ 323 17) ∧ (σ 323 17) < 1700) ∧ K none (gup (gup σ 331 (σ 323 17).toNatClampNeg x) 323 17 (((gup σ 331 (σ 323 17).toNatClampNeg x) 323 17) + 1))) : gE 253 0 [some (.ref 323), some (.int x)] [] σ K :=
  gw_run (cy := 253) (cuts := []) (inl := []) (pf := gpen) gpen_ok 400 (by decide) h
theorem x253 {σ τ : gS} {P : gS → Prop} {b : Nat} {x : Int32} (h : Wb σ b τ) (hb : b + 1 ≤ 1700) (hP : ∀ τ', Wb σ (b + 1) τ' → P τ') : gXv 253 [some (.ref 323), some (.int x)] τ P := by
  obtain ⟨h1, h2, v, hv, e⟩ := h
  refine w253 ⟨?_, rfl, hP _ ⟨fun q q1 q2 => ?_, fun j hj => ?_, v + 1, by omega, ?_⟩⟩
  · rw [e]
    exact ⟨(iN_le (k := 0) (by decide) (by omega)).mpr (by omega), (iN_lt (m := 1700) (by omega) (by decide)).mpr (by omega)⟩
  · rw [← h1 q q1 q2]
    funext i
    rw [gup_ne (by omega), gup_ne (by omega)]
  · rw [gup_ne (by omega), gup_ne (by omega)]
    exact h2 j hj
  · rw [gup_at, gup_ne (by omega), e, iN_one]
set_option maxRecDepth 20000 in
theorem w259 {σ : gS} {K : gK} {n : Int32} (h : ((¬ 9 < n → (10 : Int32) ≠ 0 ∧ gXv 253 [some (.ref 323), some (.int (48 + (n - n / 10 * 10)))] σ (fun s1 => K none s1)) ∧ (9 < n → (10 : Int32) ≠ 0 ∧ gXv 253 [some (.ref 323), some (.int (48 + (n / 10)))] σ (fun s2 => (10 : Int32) ≠ 0 ∧ gXv 253 [some (.ref 323), some (.int (48 + (n - n / 10 * 10)))] s2 (fun s3 => K none s3))))) : gE 259 0 [some (.ref 323), some (.int n)] [] σ K :=
  gw_run (cy := 259) (cuts := []) (inl := []) (pf := gpen) gpen_ok 400 (by decide) h
theorem x259 {σ τ : gS} {P : gS → Prop} {b : Nat} {n : Int32} (h : Wb σ b τ) (hb : b + 2 ≤ 1700) (hP : ∀ τ', Wb σ (b + 2) τ' → P τ') : gXv 259 [some (.ref 323), some (.int n)] τ P :=
  w259 ⟨fun _ => ⟨by decide, x253 h (by omega) (fun τ1 h1 => ⟨rfl, hP τ1 (Wb_m h1 (by omega))⟩)⟩, fun _ => ⟨by decide, x253 h (by omega) (fun τ1 h1 => ⟨by decide, x253 h1 (by omega) (fun τ2 h2 => ⟨rfl, hP τ2 h2⟩)⟩)⟩⟩
set_option maxRecDepth 20000 in
theorem w260 {σ : gS} {K : gK} {n : Int32} (h : gXv 253 [some (.ref 323), some (.int 32)] σ (fun s1 => gXv 259 [some (.ref 323), some (.int n)] s1 (fun s2 => K none s2))) : gE 260 0 [some (.ref 323), some (.int n)] [] σ K :=
  gw_run (cy := 260) (cuts := []) (inl := []) (pf := gpen) gpen_ok 400 (by decide) h
theorem x260 {σ τ : gS} {P : gS → Prop} {b : Nat} {n : Int32} (h : Wb σ b τ) (hb : b + 3 ≤ 1700) (hP : ∀ τ', Wb σ (b + 3) τ' → P τ') : gXv 260 [some (.ref 323), some (.int n)] τ P :=
  w260 (x253 h (by omega) (fun τ1 h1 => x259 h1 (by omega) (fun τ2 h2 => ⟨rfl, hP τ2 (Wb_m h2 (by omega))⟩)))
set_option maxRecDepth 20000 in
theorem w261 {σ : gS} {K : gK} {w : Int32} (h : gE 261 2 [some (.ref 323), some (.int w), some (.int 0)] [] σ K) : gE 261 0 [some (.ref 323), some (.int w), none] [] σ K :=
  gw_run (cy := 261) (cuts := [2]) (inl := []) (pf := gpen) gpen_ok 400 (by decide) h
set_option maxRecDepth 20000 in
theorem c261_2 {σ : gS} {K : gK} {l1 l2 : Int32} (h : (0 ≤ l1) ∧ ((¬ l2 < (iN (nsz l1)) → K none σ) ∧ (l2 < (iN (nsz l1)) → (0 ≤ l1 ∧ (0 ≤ l2 ∧ l2 < 20)) ∧ gXv 253 [some (.ref 323), some (.int (96 + (iN (lOf l1 l2.toNatClampNeg))))] σ (fun s1 => gE 261 2 [some (.ref 323), some (.int l1), some (.int (l2 + 1))] [] s1 K)))) : gE 261 2 [some (.ref 323), some (.int l1), some (.int l2)] [] σ K :=
  gw_run (cy := 261) (cuts := [2]) (inl := []) (pf := gpen) gpen_ok 400 (by decide) h
theorem x261 {σ τ : gS} {P : gS → Prop} {b s : Nat} {w : Int32} (h0 : 0 ≤ w) (hs : nsz w ≤ s) (h : Wb σ b τ) (hb : b + s ≤ 1700) (hP : ∀ τ', Wb σ (b + s) τ' → P τ') : gXv 261 [some (.ref 323), some (.int w), none] τ P := by
  have n8 : nsz w ≤ 8 := nsN_le _ _
  have key : ∀ d k, k + d = nsz w → ∀ τ, Wb σ (b + k) τ → gE 261 2 [some (.ref 323), some (.int w), some (.int (iN k))] [] τ (fun r σ1 => r = none ∧ P σ1) := by
    intro d
    induction d with
    | zero =>
      intro k hk τ h
      exact c261_2 ⟨h0, fun _ => ⟨rfl, hP τ (Wb_m h (by omega))⟩, fun z => absurd ((iN_lt (by omega) (by omega)).mp z) (by omega)⟩
    | succ d ih =>
      intro k hk τ h
      refine c261_2 ⟨h0, fun z => absurd ((iN_lt (by omega) (by omega)).mpr (by omega)) z, fun _ => ⟨⟨h0, b20 (by omega)⟩, x253 h (by omega) (fun τ1 h1 => ?_)⟩⟩
      rw [iN_one]
      exact ih (k + 1) (by omega) τ1 h1
  exact w261 (key (nsz w) 0 (by omega) τ h)
set_option maxRecDepth 20000 in
theorem w262 {σ : gS} {K : gK} {w n : Int32} (h : ((¬ n = 0 → gXv 253 [some (.ref 323), some (.int 32)] σ (fun s1 => gXv 261 [some (.ref 323), some (.int w), none] s1 (fun s2 => gXv 260 [some (.ref 323), some (.int n)] s2 (fun s3 => K none s3)))) ∧ (n = 0 → K none σ))) : gE 262 0 [some (.ref 323), some (.int w), some (.int n)] [] σ K :=
  gw_run (cy := 262) (cuts := []) (inl := []) (pf := gpen) gpen_ok 400 (by decide) h
theorem x262 {σ τ : gS} {P : gS → Prop} {b s : Nat} {w n : Int32} (h0 : 0 ≤ w) (hs : nsz w ≤ s) (h : Wb σ b τ) (hb : b + (s + 4) ≤ 1700) (hP : ∀ τ', Wb σ (b + (s + 4)) τ' → P τ') : gXv 262 [some (.ref 323), some (.int w), some (.int n)] τ P :=
  w262 ⟨fun _ => x253 h (by omega) (fun τ1 h1 => x261 h0 hs h1 (by omega) (fun τ2 h2 => x260 h2 (by omega) (fun τ3 h3 => ⟨rfl, hP τ3 (Wb_m h3 (by omega))⟩))), fun _ => ⟨rfl, hP τ (Wb_m h (by omega))⟩⟩
set_option maxRecDepth 20000 in
theorem w263 {σ : gS} {K : gK} {w n : Int32} (h : ((¬ n = 0 → gXv 253 [some (.ref 323), some (.int 32)] σ (fun s1 => gXv 261 [some (.ref 323), some (.int w), none] s1 (fun s2 => gXv 253 [some (.ref 323), some (.int 32)] s2 (fun s3 => ((¬ n < 0 → gXv 253 [some (.ref 323), some (.int 43)] s3 (fun s4 => ((¬ n < 0 → gXv 259 [some (.ref 323), some (.int n)] s4 (fun s5 => K none s5)) ∧ (n < 0 → gXv 259 [some (.ref 323), some (.int (-n))] s4 (fun s6 => K none s6))))) ∧ (n < 0 → gXv 253 [some (.ref 323), some (.int 45)] s3 (fun s7 => ((¬ n < 0 → gXv 259 [some (.ref 323), some (.int n)] s7 (fun s8 => K none s8)) ∧ (n < 0 → gXv 259 [some (.ref 323), some (.int (-n))] s7 (fun s9 => K none s9)))))))))) ∧ (n = 0 → K none σ))) : gE 263 0 [some (.ref 323), some (.int w), some (.int n)] [] σ K :=
  gw_run (cy := 263) (cuts := []) (inl := []) (pf := gpen) gpen_ok 400 (by decide) h
theorem x263 {σ τ : gS} {P : gS → Prop} {b s : Nat} {w n : Int32} (h0 : 0 ≤ w) (hs : nsz w ≤ s) (h : Wb σ b τ) (hb : b + (s + 5) ≤ 1700) (hP : ∀ τ', Wb σ (b + (s + 5)) τ' → P τ') : gXv 263 [some (.ref 323), some (.int w), some (.int n)] τ P := by
  have r : ∀ (m : Int32) τ3, Wb σ (b + 1 + s + 1 + 1) τ3 → gXv 259 [some (.ref 323), some (.int m)] τ3 (fun σ1 => (none : Option Value) = none ∧ P σ1) := fun m τ3 h3 => x259 h3 (by omega) (fun τ4 h4 => ⟨rfl, hP τ4 (Wb_m h4 (by omega))⟩)
  exact w263 ⟨fun _ => x253 h (by omega) (fun τ1 h1 => x261 h0 hs h1 (by omega) (fun τ2 h2 => x253 h2 (by omega) (fun τ3 h3 => ⟨fun _ => x253 h3 (by omega) (fun τ4 h4 => ⟨fun _ => r _ τ4 h4, fun _ => r _ τ4 h4⟩), fun _ => x253 h3 (by omega) (fun τ4 h4 => ⟨fun _ => r _ τ4 h4, fun _ => r _ τ4 h4⟩)⟩))), fun _ => ⟨rfl, hP τ (Wb_m h (by omega))⟩⟩
set_option maxRecDepth 20000 in
theorem w265 {σ : gS} {K : gK} {n : Int32} (h : ((¬ n = 0 → gXv 253 [some (.ref 323), some (.int 32)] σ (fun s1 => gXv 261 [some (.ref 323), some (.int 284954995), none] s1 (fun s2 => gXv 253 [some (.ref 323), some (.int 32)] s2 (fun s3 => ((¬ 99 < n → ((¬ 9 < n → (10 : Int32) ≠ 0 ∧ gXv 253 [some (.ref 323), some (.int (48 + (n - n / 10 * 10)))] s3 (fun s4 => K none s4)) ∧ (9 < n → (10 : Int32) ≠ 0 ∧ (10 : Int32) ≠ 0 ∧ gXv 253 [some (.ref 323), some (.int (48 + ((n / 10) - (n / 10) / 10 * 10)))] s3 (fun s5 => (10 : Int32) ≠ 0 ∧ gXv 253 [some (.ref 323), some (.int (48 + (n - n / 10 * 10)))] s5 (fun s6 => K none s6))))) ∧ (99 < n → (100 : Int32) ≠ 0 ∧ gXv 253 [some (.ref 323), some (.int (48 + (n / 100)))] s3 (fun s7 => ((¬ 9 < n → (10 : Int32) ≠ 0 ∧ gXv 253 [some (.ref 323), some (.int (48 + (n - n / 10 * 10)))] s7 (fun s8 => K none s8)) ∧ (9 < n → (10 : Int32) ≠ 0 ∧ (10 : Int32) ≠ 0 ∧ gXv 253 [some (.ref 323), some (.int (48 + ((n / 10) - (n / 10) / 10 * 10)))] s7 (fun s9 => (10 : Int32) ≠ 0 ∧ gXv 253 [some (.ref 323), some (.int (48 + (n - n / 10 * 10)))] s9 (fun s10 => K none s10))))))))))) ∧ (n = 0 → K none σ))) : gE 265 0 [some (.ref 323), some (.int n)] [] σ K :=
  gw_run (cy := 265) (cuts := []) (inl := []) (pf := gpen) gpen_ok 400 (by decide) h
theorem x265 {σ τ : gS} {P : gS → Prop} {b : Nat} {n : Int32} (h : Wb σ b τ) (hb : b + 11 ≤ 1700) (hP : ∀ τ', Wb σ (b + 11) τ' → P τ') : gXv 265 [some (.ref 323), some (.int n)] τ P := by
  have t10 : (10 : Int32) ≠ 0 := by decide
  have t100 : (100 : Int32) ≠ 0 := by decide
  have e : ∀ (m : Int32) c τ3, c + 1 ≤ b + 11 → Wb σ c τ3 → gXv 253 [some (.ref 323), some (.int m)] τ3 (fun σ1 => (none : Option Value) = none ∧ P σ1) := fun m c τ3 hc h3 => x253 h3 (by omega) (fun τ4 h4 => ⟨rfl, hP τ4 (Wb_m h4 (by omega))⟩)
  exact w265 ⟨fun _ => x253 h (by omega) (fun τ1 h1 => x261 (s := 6) (by decide) (by decide +kernel) h1 (by omega) (fun τ2 h2 => x253 h2 (by omega) (fun τ3 h3 => ⟨fun _ => ⟨fun _ => ⟨t10, e _ _ τ3 (by omega) h3⟩, fun _ => ⟨t10, t10, x253 h3 (by omega) (fun τ4 h4 => ⟨t10, e _ _ τ4 (by omega) h4⟩)⟩⟩, fun _ => ⟨t100, x253 h3 (by omega) (fun τ4 h4 => ⟨fun _ => ⟨t10, e _ _ τ4 (by omega) h4⟩, fun _ => ⟨t10, t10, x253 h4 (by omega) (fun τ5 h5 => ⟨t10, e _ _ τ5 (by omega) h5⟩)⟩⟩)⟩⟩))), fun _ => ⟨rfl, hP τ (Wb_m h (by omega))⟩⟩
set_option maxRecDepth 20000 in
theorem w264 {σ : gS} {K : gK} {t : Int32} (h : gXv 261 [some (.ref 323), some (.int 377669), none] σ (fun s1 => (0 ≤ (9 + 10 * t + (0 : Int32)) ∧ (9 + 10 * t + (0 : Int32)) < 330) ∧ gXv 260 [some (.ref 323), some (.int (s1 324 (9 + 10 * t + (0 : Int32)).toNatClampNeg))] s1 (fun s2 => gE 264 20 [some (.ref 323), some (.int t)] [] s2 K))) : gE 264 0 [some (.ref 323), some (.int t)] [] σ K :=
  gw_run (cy := 264) (cuts := [20, 41, 67, 83, 99, 115, 184, 199, 232]) (inl := []) (pf := gpen) gpen_ok 400 (by decide) h
set_option maxRecDepth 20000 in
theorem c264_20 {σ : gS} {K : gK} {l1 : Int32} (h : gXv 253 [some (.ref 323), some (.int 32)] σ (fun s1 => (0 ≤ (9 + 10 * l1 + (9 : Int32)) ∧ (9 + 10 * l1 + (9 : Int32)) < 330) ∧ gXv 261 [some (.ref 323), some (.int (s1 324 (9 + 10 * l1 + (9 : Int32)).toNatClampNeg)), none] s1 (fun s2 => gE 264 41 [some (.ref 323), some (.int l1)] [] s2 K))) : gE 264 20 [some (.ref 323), some (.int l1)] [] σ K :=
  gw_run (cy := 264) (cuts := [20, 41, 67, 83, 99, 115, 184, 199, 232]) (inl := []) (pf := gpen) gpen_ok 400 (by decide) h
set_option maxRecDepth 20000 in
theorem c264_41 {σ : gS} {K : gK} {l1 : Int32} (h : (0 ≤ (9 + 10 * l1 + (1 : Int32)) ∧ (9 + 10 * l1 + (1 : Int32)) < 330) ∧ ((¬ (σ 324 (9 + 10 * l1 + (1 : Int32)).toNatClampNeg) = 1 → gE 264 67 [some (.ref 323), some (.int l1)] [] σ K) ∧ ((σ 324 (9 + 10 * l1 + (1 : Int32)).toNatClampNeg) = 1 → gXv 253 [some (.ref 323), some (.int 32)] σ (fun s1 => gXv 261 [some (.ref 323), some (.int 291828332), none] s1 (fun s2 => gE 264 67 [some (.ref 323), some (.int l1)] [] s2 K))))) : gE 264 41 [some (.ref 323), some (.int l1)] [] σ K :=
  gw_run (cy := 264) (cuts := [20, 41, 67, 83, 99, 115, 184, 199, 232]) (inl := []) (pf := gpen) gpen_ok 400 (by decide) h
set_option maxRecDepth 20000 in
theorem c264_67 {σ : gS} {K : gK} {l1 : Int32} (h : (0 ≤ (9 + 10 * l1 + (2 : Int32)) ∧ (9 + 10 * l1 + (2 : Int32)) < 330) ∧ gXv 262 [some (.ref 323), some (.int 86887672), some (.int (σ 324 (9 + 10 * l1 + (2 : Int32)).toNatClampNeg))] σ (fun s1 => gE 264 83 [some (.ref 323), some (.int l1)] [] s1 K)) : gE 264 67 [some (.ref 323), some (.int l1)] [] σ K :=
  gw_run (cy := 264) (cuts := [20, 41, 67, 83, 99, 115, 184, 199, 232]) (inl := []) (pf := gpen) gpen_ok 400 (by decide) h
set_option maxRecDepth 20000 in
theorem c264_83 {σ : gS} {K : gK} {l1 : Int32} (h : (0 ≤ (9 + 10 * l1 + (3 : Int32)) ∧ (9 + 10 * l1 + (3 : Int32)) < 330) ∧ gXv 263 [some (.ref 323), some (.int 335086736), some (.int (σ 324 (9 + 10 * l1 + (3 : Int32)).toNatClampNeg))] σ (fun s1 => gE 264 99 [some (.ref 323), some (.int l1)] [] s1 K)) : gE 264 83 [some (.ref 323), some (.int l1)] [] σ K :=
  gw_run (cy := 264) (cuts := [20, 41, 67, 83, 99, 115, 184, 199, 232]) (inl := []) (pf := gpen) gpen_ok 400 (by decide) h
set_option maxRecDepth 20000 in
theorem c264_99 {σ : gS} {K : gK} {l1 : Int32} (h : (0 ≤ (9 + 10 * l1 + (4 : Int32)) ∧ (9 + 10 * l1 + (4 : Int32)) < 330) ∧ gXv 263 [some (.ref 323), some (.int 692581), some (.int (σ 324 (9 + 10 * l1 + (4 : Int32)).toNatClampNeg))] σ (fun s1 => gE 264 115 [some (.ref 323), some (.int l1)] [] s1 K)) : gE 264 99 [some (.ref 323), some (.int l1)] [] σ K :=
  gw_run (cy := 264) (cuts := [20, 41, 67, 83, 99, 115, 184, 199, 232]) (inl := []) (pf := gpen) gpen_ok 400 (by decide) h
set_option maxRecDepth 20000 in
theorem c264_115 {σ : gS} {K : gK} {l1 : Int32} (h : (0 ≤ (9 + 10 * l1 + (5 : Int32)) ∧ (9 + 10 * l1 + (5 : Int32)) < 330) ∧ ((0 < (σ 324 (9 + 10 * l1 + (5 : Int32)).toNatClampNeg) → gXv 253 [some (.ref 323), some (.int 32)] σ (fun s1 => gXv 261 [some (.ref 323), some (.int 13550), none] s1 (fun s2 => (0 ≤ (9 + 10 * l1 + (5 : Int32)) ∧ (9 + 10 * l1 + (5 : Int32)) < 330) ∧ gXv 260 [some (.ref 323), some (.int (s2 324 (9 + 10 * l1 + (5 : Int32)).toNatClampNeg))] s2 (fun s3 => (0 ≤ (9 + 10 * l1 + (6 : Int32)) ∧ (9 + 10 * l1 + (6 : Int32)) < 330) ∧ gXv 260 [some (.ref 323), some (.int (s3 324 (9 + 10 * l1 + (6 : Int32)).toNatClampNeg))] s3 (fun s4 => gE 264 184 [some (.ref 323), some (.int l1)] [] s4 K))))) ∧ (¬ 0 < (σ 324 (9 + 10 * l1 + (5 : Int32)).toNatClampNeg) → (0 ≤ (9 + 10 * l1 + (6 : Int32)) ∧ (9 + 10 * l1 + (6 : Int32)) < 330) ∧ ((¬ 0 < (σ 324 (9 + 10 * l1 + (6 : Int32)).toNatClampNeg) → gE 264 184 [some (.ref 323), some (.int l1)] [] σ K) ∧ (0 < (σ 324 (9 + 10 * l1 + (6 : Int32)).toNatClampNeg) → gXv 253 [some (.ref 323), some (.int 32)] σ (fun s5 => gXv 261 [some (.ref 323), some (.int 13550), none] s5 (fun s6 => (0 ≤ (9 + 10 * l1 + (5 : Int32)) ∧ (9 + 10 * l1 + (5 : Int32)) < 330) ∧ gXv 260 [some (.ref 323), some (.int (s6 324 (9 + 10 * l1 + (5 : Int32)).toNatClampNeg))] s6 (fun s7 => (0 ≤ (9 + 10 * l1 + (6 : Int32)) ∧ (9 + 10 * l1 + (6 : Int32)) < 330) ∧ gXv 260 [some (.ref 323), some (.int (s7 324 (9 + 10 * l1 + (6 : Int32)).toNatClampNeg))] s7 (fun s8 => gE 264 184 [some (.ref 323), some (.int l1)] [] s8 K))))))))) : gE 264 115 [some (.ref 323), some (.int l1)] [] σ K :=
  gw_run (cy := 264) (cuts := [20, 41, 67, 83, 99, 115, 184, 199, 232]) (inl := []) (pf := gpen) gpen_ok 400 (by decide) h
set_option maxRecDepth 20000 in
theorem c264_184 {σ : gS} {K : gK} {l1 : Int32} (h : (0 ≤ (9 + 10 * l1 + (7 : Int32)) ∧ (9 + 10 * l1 + (7 : Int32)) < 330) ∧ gXv 265 [some (.ref 323), some (.int (σ 324 (9 + 10 * l1 + (7 : Int32)).toNatClampNeg))] σ (fun s1 => gE 264 199 [some (.ref 323), some (.int l1)] [] s1 K)) : gE 264 184 [some (.ref 323), some (.int l1)] [] σ K :=
  gw_run (cy := 264) (cuts := [20, 41, 67, 83, 99, 115, 184, 199, 232]) (inl := []) (pf := gpen) gpen_ok 400 (by decide) h
set_option maxRecDepth 20000 in
theorem c264_199 {σ : gS} {K : gK} {l1 : Int32} (h : (0 ≤ (9 + 10 * l1 + (8 : Int32)) ∧ (9 + 10 * l1 + (8 : Int32)) < 330) ∧ ((¬ (σ 324 (9 + 10 * l1 + (8 : Int32)).toNatClampNeg) < 99 → gE 264 232 [some (.ref 323), some (.int l1)] [] σ K) ∧ ((σ 324 (9 + 10 * l1 + (8 : Int32)).toNatClampNeg) < 99 → (0 ≤ (9 + 10 * l1 + (8 : Int32)) ∧ (9 + 10 * l1 + (8 : Int32)) < 330) ∧ gXv 262 [some (.ref 323), some (.int 388978), some (.int (σ 324 (9 + 10 * l1 + (8 : Int32)).toNatClampNeg))] σ (fun s1 => gE 264 232 [some (.ref 323), some (.int l1)] [] s1 K)))) : gE 264 199 [some (.ref 323), some (.int l1)] [] σ K :=
  gw_run (cy := 264) (cuts := [20, 41, 67, 83, 99, 115, 184, 199, 232]) (inl := []) (pf := gpen) gpen_ok 400 (by decide) h
set_option maxRecDepth 20000 in
theorem c264_232 {σ : gS} {K : gK} {l1 : Int32} (h : gXv 253 [some (.ref 323), some (.int 59)] σ (fun s1 => K none s1)) : gE 264 232 [some (.ref 323), some (.int l1)] [] σ K :=
  gw_run (cy := 264) (cuts := [20, 41, 67, 83, 99, 115, 184, 199, 232]) (inl := []) (pf := gpen) gpen_ok 400 (by decide) h
theorem x264 {σ τ : gS} {P : gS → Prop} {c m : Nat} (hn : nmG (σ 324)) (hm : m < nM (σ 324)) (h20 : m < 20) (h : Wb σ c τ) (hb : c + 81 ≤ 1700) (hP : ∀ τ', Wb σ (c + 81) τ' → P τ') : gXv 264 [some (.ref 323), some (.int (iN m))] τ P := by
  have e24 : ∀ {b τ}, Wb σ b τ → τ 324 = σ 324 := fun h => h.1 324 (by decide) (by decide)
  obtain ⟨n0, n1, n5⟩ := hn m hm
  have a232 : ∀ τ, Wb σ (c + 80) τ → gE 264 232 [some (.ref 323), some (.int (iN m))] [] τ (fun r σ1 => r = none ∧ P σ1) := fun τ h => c264_232 (x253 h (by omega) (fun τ1 h1 => ⟨rfl, hP τ1 h1⟩))
  have a199 : ∀ τ, Wb σ (c + 72) τ → gE 264 199 [some (.ref 323), some (.int (iN m))] [] τ (fun r σ1 => r = none ∧ P σ1) := fun τ h => c264_199 ⟨ixb8 h20, fun _ => a232 τ (Wb_m h (by omega)), fun _ => ⟨ixb8 h20, x262 (s := 4) (by decide) (by decide +kernel) h (by omega) (fun τ1 h1 => a232 τ1 h1)⟩⟩
  have a184 : ∀ τ, Wb σ (c + 61) τ → gE 264 184 [some (.ref 323), some (.int (iN m))] [] τ (fun r σ1 => r = none ∧ P σ1) := fun τ h => c264_184 ⟨ixb7 h20, x265 h (by omega) (fun τ1 h1 => a199 τ1 h1)⟩
  have r : ∀ τ, Wb σ (c + 51) τ → gXv 253 [some (.ref 323), some (.int 32)] τ (fun s1 => gXv 261 [some (.ref 323), some (.int 13550), none] s1 (fun s2 => (0 ≤ (9 + 10 * iN m + (5 : Int32)) ∧ (9 + 10 * iN m + (5 : Int32)) < 330) ∧ gXv 260 [some (.ref 323), some (.int (s2 324 (9 + 10 * iN m + (5 : Int32)).toNatClampNeg))] s2 (fun s3 => (0 ≤ (9 + 10 * iN m + (6 : Int32)) ∧ (9 + 10 * iN m + (6 : Int32)) < 330) ∧ gXv 260 [some (.ref 323), some (.int (s3 324 (9 + 10 * iN m + (6 : Int32)).toNatClampNeg))] s3 (fun s4 => gE 264 184 [some (.ref 323), some (.int (iN m))] [] s4 (fun r σ1 => r = none ∧ P σ1))))) := fun τ h => x253 h (by omega) (fun τ1 h1 => x261 (s := 3) (by decide) (by decide +kernel) h1 (by omega) (fun τ2 h2 => ⟨ixb5 h20, x260 h2 (by omega) (fun τ3 h3 => ⟨ixb6 h20, x260 h3 (by omega) (fun τ4 h4 => a184 τ4 (Wb_m h4 (by omega)))⟩)⟩))
  have a115 : ∀ τ, Wb σ (c + 51) τ → gE 264 115 [some (.ref 323), some (.int (iN m))] [] τ (fun r σ1 => r = none ∧ P σ1) := fun τ h => c264_115 ⟨ixb5 h20, fun _ => r τ h, fun _ => ⟨ixb6 h20, fun _ => a184 τ (Wb_m h (by omega)), fun _ => r τ h⟩⟩
  have a99 : ∀ τ, Wb σ (c + 41) τ → gE 264 99 [some (.ref 323), some (.int (iN m))] [] τ (fun r σ1 => r = none ∧ P σ1) := fun τ h => c264_99 ⟨ixb4 h20, x263 (s := 5) (by decide) (by decide +kernel) h (by omega) (fun τ1 h1 => a115 τ1 h1)⟩
  have a83 : ∀ τ, Wb σ (c + 30) τ → gE 264 83 [some (.ref 323), some (.int (iN m))] [] τ (fun r σ1 => r = none ∧ P σ1) := fun τ h => c264_83 ⟨ixb3 h20, x263 (s := 6) (by decide) (by decide +kernel) h (by omega) (fun τ1 h1 => a99 τ1 h1)⟩
  have a67 : ∀ τ, Wb σ (c + 20) τ → gE 264 67 [some (.ref 323), some (.int (iN m))] [] τ (fun r σ1 => r = none ∧ P σ1) := fun τ h => c264_67 ⟨ixb2 h20, x262 (s := 6) (by decide) (by decide +kernel) h (by omega) (fun τ1 h1 => a83 τ1 h1)⟩
  have a41 : ∀ τ, Wb σ (c + 13) τ → gE 264 41 [some (.ref 323), some (.int (iN m))] [] τ (fun r σ1 => r = none ∧ P σ1) := fun τ h => c264_41 ⟨ixb1 h20, fun _ => a67 τ (Wb_m h (by omega)), fun _ => x253 h (by omega) (fun τ1 h1 => x261 (s := 6) (by decide) (by decide +kernel) h1 (by omega) (fun τ2 h2 => a67 τ2 h2))⟩
  have a20 : ∀ τ, Wb σ (c + 7) τ → gE 264 20 [some (.ref 323), some (.int (iN m))] [] τ (fun r σ1 => r = none ∧ P σ1) := fun τ h => c264_20 (x253 h (by omega) (fun τ1 h1 => ⟨ixb9 h20, by
    rw [ix9 h20, e24 h1]
    exact x261 (s := 5) n0 n5 h1 (by omega) (fun τ2 h2 => a41 τ2 h2)⟩))
  exact w264 (x261 (s := 4) (by decide) (by decide +kernel) h (by omega) (fun τ1 h1 => ⟨ixb0 h20, x260 h1 (by omega) (fun τ2 h2 => a20 τ2 h2)⟩))
set_option maxRecDepth 20000 in
theorem w266 {σ : gS} {K : gK} (h : gXv 261 [some (.ref 323), some (.int 10984100), none] (gup σ 323 17 0) (fun s1 => gE 266 11 [some (.ref 323), none] [] s1 K)) : gE 266 0 [some (.ref 323), none] [] σ K :=
  gw_run (cy := 266) (cuts := [11, 21, 33, 43, 51]) (inl := []) (pf := gpen) gpen_ok 400 (by decide) h
set_option maxRecDepth 20000 in
theorem c266_11 {σ : gS} {K : gK} (h : (0 ≤ (0 : Int32) ∧ (0 : Int32) < 330) ∧ gXv 260 [some (.ref 323), some (.int (σ 324 0))] σ (fun s1 => gE 266 21 [some (.ref 323), none] [] s1 K)) : gE 266 11 [some (.ref 323), none] [] σ K :=
  gw_run (cy := 266) (cuts := [11, 21, 33, 43, 51]) (inl := []) (pf := gpen) gpen_ok 400 (by decide) h
set_option maxRecDepth 20000 in
theorem c266_21 {σ : gS} {K : gK} (h : gXv 253 [some (.ref 323), some (.int 32)] σ (fun s1 => gXv 261 [some (.ref 323), some (.int 3379448), none] s1 (fun s2 => gE 266 33 [some (.ref 323), none] [] s2 K))) : gE 266 21 [some (.ref 323), none] [] σ K :=
  gw_run (cy := 266) (cuts := [11, 21, 33, 43, 51]) (inl := []) (pf := gpen) gpen_ok 400 (by decide) h
set_option maxRecDepth 20000 in
theorem c266_33 {σ : gS} {K : gK} (h : (0 ≤ (1 : Int32) ∧ (1 : Int32) < 330) ∧ gXv 260 [some (.ref 323), some (.int (σ 324 1))] σ (fun s1 => gE 266 43 [some (.ref 323), none] [] s1 K)) : gE 266 33 [some (.ref 323), none] [] σ K :=
  gw_run (cy := 266) (cuts := [11, 21, 33, 43, 51]) (inl := []) (pf := gpen) gpen_ok 400 (by decide) h
set_option maxRecDepth 20000 in
theorem c266_43 {σ : gS} {K : gK} (h : gXv 253 [some (.ref 323), some (.int 59)] σ (fun s1 => gE 266 51 [some (.ref 323), some (.int 0)] [] s1 K)) : gE 266 43 [some (.ref 323), none] [] σ K :=
  gw_run (cy := 266) (cuts := [11, 21, 33, 43, 51]) (inl := []) (pf := gpen) gpen_ok 400 (by decide) h
set_option maxRecDepth 20000 in
theorem c266_51 {σ : gS} {K : gK} {l1 : Int32} (h : (0 ≤ (3 : Int32) ∧ (3 : Int32) < 330) ∧ ((¬ l1 < (σ 324 3) → K none σ) ∧ (l1 < (σ 324 3) → gXv 264 [some (.ref 323), some (.int l1)] σ (fun s1 => gE 266 51 [some (.ref 323), some (.int (l1 + 1))] [] s1 K)))) : gE 266 51 [some (.ref 323), some (.int l1)] [] σ K :=
  gw_run (cy := 266) (cuts := [11, 21, 33, 43, 51]) (inl := []) (pf := gpen) gpen_ok 400 (by decide) h
theorem x266 {σ : gS} {P : gS → Prop} (h3 : 0 ≤ σ 324 3 ∧ σ 324 3 ≤ 20) (hn : nmG (σ 324)) (hP : ∀ τ', Wb σ 1638 τ' → P τ') : gXv 266 [some (.ref 323), none] σ P := by
  have hN := (nM_of h3).2
  have e24 : ∀ {b τ}, Wb σ b τ → τ 324 = σ 324 := fun h => h.1 324 (by decide) (by decide)
  have a51 : ∀ d k, k + d = nM (σ 324) → ∀ τ, Wb σ (18 + 81 * k) τ → gE 266 51 [some (.ref 323), some (.int (iN k))] [] τ (fun r σ1 => r = none ∧ P σ1) := by
    intro d
    induction d with
    | zero =>
      intro k hk τ h
      refine c266_51 ⟨by decide, fun _ => ⟨rfl, hP τ (Wb_m h (by omega))⟩, fun z => ?_⟩
      rw [e24 h, nM_lt h3 (by omega)] at z
      omega
    | succ d ih =>
      intro k hk τ h
      refine c266_51 ⟨by decide, fun z => ?_, fun _ => x264 hn (by omega) (by omega) h (by omega) (fun τ1 h1 => ?_)⟩
      · rw [e24 h, nM_lt h3 (by omega)] at z
        omega
      · rw [iN_one]
        exact ih (k + 1) (by omega) τ1 (Wb_m h1 (by omega))
  have h0 : Wb σ 0 (gup σ 323 17 0) := ⟨fun q q1 q2 => funext fun i => gup_ne (by omega), fun j hj => gup_ne (by omega), 0, Nat.le_refl _, gup_at _ _ _⟩
  exact w266 (x261 (s := 5) (by decide) (by decide +kernel) h0 (by omega) (fun τ1 h1 => c266_11 ⟨by decide, x260 h1 (by omega) (fun τ2 h2 => c266_21 (x253 h2 (by omega) (fun τ3 h3 => x261 (s := 5) (by decide) (by decide +kernel) h3 (by omega) (fun τ4 h4 => c266_33 ⟨by decide, x260 h4 (by omega) (fun τ5 h5 => c266_43 (x253 h5 (by omega) (fun τ6 h6 => a51 (nM (σ 324)) 0 (by omega) τ6 (Wb_m h6 (by omega)))))⟩))))⟩))
set_option maxRecDepth 20000 in
theorem w254 {σ : gS} {K : gK} {i : Int32} (h : ((¬ i < (σ 323 17) → K (some (.int (-2))) σ) ∧ (i < (σ 323 17) → (0 ≤ i ∧ i < 1700) ∧ K (some (.int (σ 331 i.toNatClampNeg))) σ))) : gE 254 0 [some (.ref 323), some (.int i)] [] σ K :=
  gw_run (cy := 254) (cuts := []) (inl := []) (pf := gpen) gpen_ok 400 (by decide) h
set_option maxRecDepth 20000 in
theorem w267 {σ : gS} {K : gK} (h : gXv 266 [some (.ref 323), none] σ (fun s1 => K (some (.int (s1 323 17))) s1)) : gE 267 0 [some (.ref 323)] [] σ K :=
  gw_run (cy := 267) (cuts := []) (inl := []) (pf := gpen) gpen_ok 400 (by decide) h
set_option maxRecDepth 20000 in
theorem w268 {σ : gS} {K : gK} {i : Int32} (h : ((¬ i < 0 → gXv 266 [some (.ref 323), none] σ (fun s1 => gXi 254 [some (.ref 323), some (.int i)] s1 (fun x2 s2 => K (some (.int x2)) s2))) ∧ (i < 0 → K (some (.int (-1))) σ))) : gE 268 0 [some (.ref 323), some (.int i)] [] σ K :=
  gw_run (cy := 268) (cuts := []) (inl := []) (pf := gpen) gpen_ok 400 (by decide) h
theorem x267 {σ : gS} {P : Int32 → gS → Prop} (h3 : 0 ≤ σ 324 3 ∧ σ 324 3 ≤ 20) (hn : nmG (σ 324)) (hP : ∀ x τ', Wf σ τ' → P x τ') : gXi 267 [some (.ref 323)] σ P :=
  w267 (x266 h3 hn (fun τ h => ⟨_, rfl, hP _ τ (Wb_f h)⟩))
theorem x268 {σ : gS} {P : Int32 → gS → Prop} {i : Int32} (h3 : 0 ≤ σ 324 3 ∧ σ 324 3 ≤ 20) (hn : nmG (σ 324)) (hP : ∀ x τ', Wf σ τ' → P x τ') : gXi 268 [some (.ref 323), some (.int i)] σ P := by
  refine w268 ⟨fun hi => x266 h3 hn (fun τ h => ?_), fun hi => ⟨_, rfl, hP _ σ ?_⟩⟩
  · have h' := Wb_f h
    obtain ⟨h1, h2, v, hv, e⟩ := h
    refine w254 ⟨fun _ => ⟨_, rfl, _, rfl, hP _ τ h'⟩, fun z => ⟨⟨Int32.not_lt.mp hi, ?_⟩, _, rfl, _, rfl, hP _ τ h'⟩⟩
    rw [e] at z
    have l : iN v ≤ 1638 := (iN_le (m := 1638) (by omega) (by decide)).mpr hv
    grind
  · exact ⟨fun _ _ _ => rfl, fun _ _ => rfl⟩
end
section
-- text 109
/-! THE REFERENCE: the plan is written -/
noncomputable def sgr (R : gW) (x : Int32) : Int32 := if fWho R x < 0 then 46 else iN (lOf (R (9 + 10 * (fWho R x).toNatClampNeg + 9)) 0) + (if fJo R (fWho R x).toNatClampNeg < 0 then 64 else 96)
noncomputable def plr (R : gW) (r c : Nat) : Int32 := if c = 0 then (if iN r < R 1 then 61 else 45) else if c = 1 then (if isFwd (iN r) then 62 else 60) else if c = 6 then 10 else sgr R (4 * iN r + iN (c - 2))
noncomputable def plB (R : gW) (j : Nat) : Int32 := plr R (j / 7) (j % 7)
/-- w bytes of the plan are written -/
noncomputable def Wp (σ : gS) (w : Nat) (τ : gS) : Prop := Wf σ τ ∧ τ 323 17 = iN w ∧ ∀ j, j < w → τ 331 j = plB (σ 324) j
theorem z253 {σ τ : gS} {P : gS → Prop} {w : Nat} {x : Int32} (h : Wp σ w τ) (hb : w < 1700) (hx : plB (σ 324) w = x) (hP : ∀ τ', Wp σ (w + 1) τ' → P τ') : gXv 253 [some (.ref 323), some (.int x)] τ P := by
  obtain ⟨⟨h1, h2⟩, e, hB⟩ := h
  refine w253 ⟨?_, rfl, hP _ ⟨⟨fun q q1 q2 => ?_, fun j hj => ?_⟩, ?_, fun j hj => ?_⟩⟩
  · rw [e]
    exact ⟨(iN_le (k := 0) (by decide) (by omega)).mpr (by omega), (iN_lt (m := 1700) (by omega) (by decide)).mpr (by omega)⟩
  · rw [← h1 q q1 q2]
    funext i
    rw [gup_ne (by omega), gup_ne (by omega)]
  · rw [gup_ne (by omega), gup_ne (by omega)]
    exact h2 j hj
  · rw [gup_at, gup_ne (by omega), e, iN_one]
  · rw [gup_ne (by omega), e, iN_nat (by omega)]
    by_cases q : j = w
    · subst q
      rw [gup_at]
      exact hx.symm
    · rw [gup_ne (by omega)]
      exact hB j (by omega)
set_option maxRecDepth 20000 in
theorem w256 {σ : gS} {K : gK} {x : Int32} (h : (0 ≤ σ 324 3 ∧ σ 324 3 ≤ 20) ∧ ((¬ (fWho (σ 324) x) < 0 → (0 ≤ (9 + 10 * (fWho (σ 324) x) + (9 : Int32)) ∧ (9 + 10 * (fWho (σ 324) x) + (9 : Int32)) < 330) ∧ (0 ≤ (σ 324 (9 + 10 * (fWho (σ 324) x) + (9 : Int32)).toNatClampNeg) ∧ (0 ≤ (0 : Int32) ∧ (0 : Int32) < 20)) ∧ ((0 ≤ (fWho (σ 324) x) ∧ (fWho (σ 324) x) < 20) ∧ 0 ≤ σ 324 3 ∧ σ 324 3 ≤ 20) ∧ ((¬ (fJo (σ 324) (fWho (σ 324) x).toNatClampNeg) < 0 → gXv 253 [some (.ref 323), some (.int ((iN (lOf (σ 324 (9 + 10 * (fWho (σ 324) x) + (9 : Int32)).toNatClampNeg) (0 : Int32).toNatClampNeg)) + 96))] σ (fun s1 => K none s1)) ∧ ((fJo (σ 324) (fWho (σ 324) x).toNatClampNeg) < 0 → gXv 253 [some (.ref 323), some (.int ((iN (lOf (σ 324 (9 + 10 * (fWho (σ 324) x) + (9 : Int32)).toNatClampNeg) (0 : Int32).toNatClampNeg)) + 64))] σ (fun s2 => K none s2)))) ∧ ((fWho (σ 324) x) < 0 → gXv 253 [some (.ref 323), some (.int 46)] σ (fun s3 => K none s3)))) : gE 256 0 [some (.ref 323), some (.int x), none] [] σ K :=
  gw_run (cy := 256) (cuts := []) (inl := []) (pf := gpen) gpen_ok 400 (by decide) h
theorem z256 {σ τ : gS} {P : gS → Prop} {w : Nat} {x : Int32} (h3 : 0 ≤ σ 324 3 ∧ σ 324 3 ≤ 20) (hn : nmG (σ 324)) (h : Wp σ w τ) (hb : w < 1700) (hx : plB (σ 324) w = sgr (σ 324) x) (hP : ∀ τ', Wp σ (w + 1) τ' → P τ') : gXv 256 [some (.ref 323), some (.int x), none] τ P := by
  have e24 : τ 324 = σ 324 := h.1.1 324 (by decide) (by decide)
  refine w256 ?_
  rw [e24]
  unfold sgr at hx
  refine ⟨h3, fun q => ?_, fun q => ?_⟩
  · rw [if_neg q] at hx
    have hw := fWho_w h3 (fun z => q (by rw [z]; decide))
    obtain ⟨et, lt⟩ := t20 hw.1
    have hk := hw.2
    obtain ⟨k, ek⟩ : ∃ k, (fWho (σ 324) x).toNatClampNeg = k := ⟨_, rfl⟩
    rw [ek] at et lt hk hx
    rw [et, ix9 lt, iN_nat (by omega)]
    have nn := hn k hk
    refine ⟨ixb9 lt, ⟨nn.1, by decide⟩, ⟨b20 lt, h3⟩, fun q2 => ?_, fun q2 => ?_⟩
    · rw [if_neg q2] at hx
      exact z253 h hb hx (fun τ1 h1 => ⟨rfl, hP τ1 h1⟩)
    · rw [if_pos q2] at hx
      exact z253 h hb hx (fun τ1 h1 => ⟨rfl, hP τ1 h1⟩)
  · rw [if_pos q] at hx
    exact z253 h hb hx (fun τ1 h1 => ⟨rfl, hP τ1 h1⟩)
set_option maxRecDepth 20000 in
theorem w255 {σ : gS} {K : gK} (h : gE 255 7 [some (.ref 323), some (.int 0), none] [] (gup σ 323 17 0) K) : gE 255 0 [some (.ref 323), none, none] [] σ K :=
  gw_run (cy := 255) (cuts := [7, 38, 56, 58, 78]) (inl := []) (pf := gpen) gpen_ok 400 (by decide) h
set_option maxRecDepth 20000 in
theorem c255_7 {σ : gS} {K : gK} {l1 : Int32} {l2 : Option Value} (h : (0 ≤ (0 : Int32) ∧ (0 : Int32) < 330) ∧ ((¬ l1 < (σ 324 0) → K none σ) ∧ (l1 < (σ 324 0) → (0 ≤ (1 : Int32) ∧ (1 : Int32) < 330) ∧ ((¬ l1 < (σ 324 1) → gXv 253 [some (.ref 323), some (.int 45)] σ (fun s1 => gE 255 38 [some (.ref 323), some (.int l1), l2] [] s1 K)) ∧ (l1 < (σ 324 1) → gXv 253 [some (.ref 323), some (.int 61)] σ (fun s2 => gE 255 38 [some (.ref 323), some (.int l1), l2] [] s2 K)))))) : gE 255 7 [some (.ref 323), some (.int l1), l2] [] σ K :=
  gw_run (cy := 255) (cuts := [7, 38, 56, 58, 78]) (inl := []) (pf := gpen) gpen_ok 400 (by decide) h
set_option maxRecDepth 20000 in
theorem c255_38 {σ : gS} {K : gK} {l1 : Int32} {l2 : Option Value} (h : (((bI (isFwd l1)) = 0 → gXv 253 [some (.ref 323), some (.int 60)] σ (fun s1 => gE 255 56 [some (.ref 323), some (.int l1), l2] [] s1 K)) ∧ (¬ (bI (isFwd l1)) = 0 → gXv 253 [some (.ref 323), some (.int 62)] σ (fun s2 => gE 255 56 [some (.ref 323), some (.int l1), l2] [] s2 K)))) : gE 255 38 [some (.ref 323), some (.int l1), l2] [] σ K :=
  gw_run (cy := 255) (cuts := [7, 38, 56, 58, 78]) (inl := []) (pf := gpen) gpen_ok 400 (by decide) h
set_option maxRecDepth 20000 in
theorem c255_56 {σ : gS} {K : gK} {l1 : Int32} {l2 : Option Value} (h : gE 255 58 [some (.ref 323), some (.int l1), some (.int 0)] [] σ K) : gE 255 56 [some (.ref 323), some (.int l1), l2] [] σ K :=
  gw_run (cy := 255) (cuts := [7, 38, 56, 58, 78]) (inl := []) (pf := gpen) gpen_ok 400 (by decide) h
set_option maxRecDepth 20000 in
theorem c255_58 {σ : gS} {K : gK} {l1 l2 : Int32} (h : ((¬ l2 < 4 → gE 255 78 [some (.ref 323), some (.int l1), some (.int l2)] [] σ K) ∧ (l2 < 4 → gXv 256 [some (.ref 323), some (.int ((4 * l1) + l2)), none] σ (fun s1 => gE 255 58 [some (.ref 323), some (.int l1), some (.int (l2 + 1))] [] s1 K)))) : gE 255 58 [some (.ref 323), some (.int l1), some (.int l2)] [] σ K :=
  gw_run (cy := 255) (cuts := [7, 38, 56, 58, 78]) (inl := []) (pf := gpen) gpen_ok 400 (by decide) h
set_option maxRecDepth 20000 in
theorem c255_78 {σ : gS} {K : gK} {l1 l2 : Int32} (h : gXv 253 [some (.ref 323), some (.int 10)] σ (fun s1 => gE 255 7 [some (.ref 323), some (.int (l1 + 1)), some (.int l2)] [] s1 K)) : gE 255 78 [some (.ref 323), some (.int l1), some (.int l2)] [] σ K :=
  gw_run (cy := 255) (cuts := [7, 38, 56, 58, 78]) (inl := []) (pf := gpen) gpen_ok 400 (by decide) h
theorem plB_at {R : gW} {r c : Nat} (hc : c < 7) : plB R (7 * r + c) = plr R r c := by
  unfold plB
  rw [show (7 * r + c) / 7 = r by omega, show (7 * r + c) % 7 = c by omega]
theorem z255 {σ : gS} {P : gS → Prop} {N : Nat} (h3 : 0 ≤ σ 324 3 ∧ σ 324 3 ≤ 20) (hn : nmG (σ 324)) (hN : N ≤ 10) (e0 : σ 324 0 = iN N) (hP : ∀ τ', Wp σ (7 * N) τ' → P τ') : gXv 255 [some (.ref 323), none, none] σ P := by
  have e24 : ∀ {w τ}, Wp σ w τ → τ 324 = σ 324 := fun h => h.1.1 324 (by decide) (by decide)
  have a7 : ∀ d r, r + d = N → ∀ u τ, Wp σ (7 * r) τ → gE 255 7 [some (.ref 323), some (.int (iN r)), u] [] τ (fun r σ1 => r = none ∧ P σ1) := by
    intro d
    induction d with
    | zero =>
      intro r hr u τ h
      refine c255_7 ?_
      rw [e24 h, e0]
      have : r = N := by omega
      subst this
      exact ⟨by decide, fun _ => ⟨rfl, hP τ h⟩, fun z => absurd ((iN_lt (by omega) (by omega)).mp z) (Nat.lt_irrefl _)⟩
    | succ d ih =>
      intro r hr u τ h
      have a78 : ∀ v τ, Wp σ (7 * r + 6) τ → gE 255 78 [some (.ref 323), some (.int (iN r)), some (.int v)] [] τ (fun r σ1 => r = none ∧ P σ1) := by
        intro v τ h
        refine c255_78 (z253 h (by omega) ?_ (fun τ1 h1 => ?_))
        · rw [plB_at (by decide)]
          rfl
        · rw [iN_one]
          exact ih (r + 1) (by omega) _ τ1 h1
      have a58 : ∀ d2 c, c + d2 = 4 → ∀ τ, Wp σ (7 * r + (2 + c)) τ → gE 255 58 [some (.ref 323), some (.int (iN r)), some (.int (iN c))] [] τ (fun r σ1 => r = none ∧ P σ1) := by
        intro d2
        induction d2 with
        | zero =>
          intro c hc τ h
          have : c = 4 := by omega
          subst this
          exact c255_58 ⟨fun _ => a78 _ τ h, fun z => absurd z (by decide)⟩
        | succ d2 ih2 =>
          intro c hc τ h
          refine c255_58 ⟨fun z => absurd ((iN_lt (m := 4) (by omega) (by decide)).mpr (by omega)) z, fun _ => z256 h3 hn h (by omega) ?_ (fun τ1 h1 => ?_)⟩
          · rw [plB_at (by omega)]
            unfold plr
            rw [if_neg (by omega), if_neg (by omega), if_neg (by omega), show 2 + c - 2 = c by omega]
          · rw [iN_one]
            exact ih2 (c + 1) (by omega) τ1 h1
      have a38 : ∀ u τ, Wp σ (7 * r + 1) τ → gE 255 38 [some (.ref 323), some (.int (iN r)), u] [] τ (fun r σ1 => r = none ∧ P σ1) := by
        intro u τ h
        have e : plB (σ 324) (7 * r + 1) = if isFwd (iN r) then 62 else 60 := by
          rw [plB_at (by decide)]
          rfl
        refine c255_38 ⟨fun z => z253 h (by omega) ?_ (fun τ1 h1 => c255_56 (a58 4 0 rfl τ1 h1)), fun z => z253 h (by omega) ?_ (fun τ1 h1 => c255_56 (a58 4 0 rfl τ1 h1))⟩
        · rw [e, if_neg (bI_0.mp z)]
        · rw [e, if_pos (dnn z)]
      have e : plB (σ 324) (7 * r) = if iN r < σ 324 1 then 61 else 45 := by
        have := plB_at (R := σ 324) (r := r) (c := 0) (by decide)
        rw [Nat.add_zero] at this
        rw [this]
        rfl
      refine c255_7 ?_
      rw [e24 h, e0]
      refine ⟨by decide, fun z => absurd ((iN_lt (by omega) (by omega)).mpr (by omega)) z, fun _ => ⟨by decide, fun z => z253 h (by omega) ?_ (fun τ1 h1 => a38 _ τ1 h1), fun z => z253 h (by omega) ?_ (fun τ1 h1 => a38 _ τ1 h1)⟩⟩
      · rw [e, if_neg z]
      · rw [e, if_pos z]
  have h0 : Wp σ 0 (gup σ 323 17 0) := ⟨⟨fun q q1 q2 => funext fun i => gup_ne (by omega), fun j hj => gup_ne (by omega)⟩, gup_at _ _ _, fun j hj => absurd hj (Nat.not_lt_zero _)⟩
  exact w255 (a7 N 0 (by omega) none _ h0)
set_option maxRecDepth 20000 in
theorem w257 {σ : gS} {K : gK} (h : gXv 255 [some (.ref 323), none, none] σ (fun s1 => K (some (.int (s1 323 17))) s1)) : gE 257 0 [some (.ref 323)] [] σ K :=
  gw_run (cy := 257) (cuts := []) (inl := []) (pf := gpen) gpen_ok 400 (by decide) h
set_option maxRecDepth 20000 in
theorem w258 {σ : gS} {K : gK} {i : Int32} (h : ((¬ i < 0 → gXv 255 [some (.ref 323), none, none] σ (fun s1 => gXi 254 [some (.ref 323), some (.int i)] s1 (fun x2 s2 => K (some (.int x2)) s2))) ∧ (i < 0 → K (some (.int (-1))) σ))) : gE 258 0 [some (.ref 323), some (.int i)] [] σ K :=
  gw_run (cy := 258) (cuts := []) (inl := []) (pf := gpen) gpen_ok 400 (by decide) h
/-- the reference's byte of the plan -/
noncomputable def rPb (R : gW) (i : Int32) : Int32 := if i < 0 then -1 else if i < R 0 * 7 then plB R i.toNatClampNeg else -2
theorem x257 {σ : gS} {P : Int32 → gS → Prop} (h3 : 0 ≤ σ 324 3 ∧ σ 324 3 ≤ 20) (h0 : 2 ≤ σ 324 0 ∧ σ 324 0 ≤ 10) (hn : nmG (σ 324)) (hP : ∀ τ', Wf σ τ' → P (σ 324 0 * 7) τ') : gXi 257 [some (.ref 323)] σ P := by
  obtain ⟨N, hN, eN, nN⟩ := row_n h0
  refine w257 (z255 h3 hn hN eN (fun τ h => ⟨_, rfl, ?_⟩))
  have := hP τ h.1
  rw [eN, show (7 : Int32) = iN 7 from rfl, iN_mul, Nat.mul_comm] at this
  rw [h.2.1]
  exact this
theorem x258 {σ : gS} {P : Int32 → gS → Prop} {i : Int32} (h3 : 0 ≤ σ 324 3 ∧ σ 324 3 ≤ 20) (h0 : 2 ≤ σ 324 0 ∧ σ 324 0 ≤ 10) (hn : nmG (σ 324)) (hP : ∀ τ', Wf σ τ' → P (rPb (σ 324) i) τ') : gXi 258 [some (.ref 323), some (.int i)] σ P := by
  obtain ⟨N, hN, eN, nN⟩ := row_n h0
  unfold rPb at hP
  refine w258 ⟨fun hi => z255 h3 hn hN eN (fun τ h => ?_), fun hi => ⟨_, rfl, ?_⟩⟩
  · have hp := hP τ h.1
    rw [if_neg hi, eN, show (7 : Int32) = iN 7 from rfl, iN_mul, Nat.mul_comm] at hp
    refine w254 ⟨fun z => ⟨_, rfl, _, rfl, ?_⟩, fun z => ⟨⟨Int32.not_lt.mp hi, ?_⟩, _, rfl, _, rfl, ?_⟩⟩
    · rw [h.2.1] at z
      rw [if_neg z] at hp
      exact hp
    · rw [h.2.1] at z
      have l : iN (7 * N) ≤ 70 := (iN_le (m := 70) (by omega) (by decide)).mpr (by omega)
      grind
    · rw [h.2.1] at z
      rw [if_pos z] at hp
      obtain ⟨ei, li⟩ := iN_of (Int32.not_lt.mp hi)
      rw [h.2.2 _ (by
        rw [ei] at z
        exact (iN_lt li (by omega)).mp z)]
      exact hp
  · have hp := hP σ ⟨fun _ _ _ => rfl, fun _ _ => rfl⟩
    rw [if_pos hi] at hp
    exact hp
end
